section
-- ===== PART A: goes FIRST, ahead of the names: the tables' words, and 'selects' of the private methods out of them =====
/-- a private method of a class that the tables say can be made, by its rows of tables_1 -/
def lw_okq (q : MethodName × Nat) : Prop := (q.1.cls ≠ "java/lang/invoke/MethodHandle" ∧ q.1.cls ≠ "java/lang/invoke/VarHandle") ∧ Cond.instantiable q.1.cls q.2 ∈ tables_1 ∧ Cond.privateMethod q.1 ∈ tables_1 ∧ Cond.instanceMethod q.1 ∈ tables_1
theorem lw_p0 : lw_okq (⟨"StatuteBook$Reader", "readOperation", "()V"⟩, 4) := ⟨⟨by decide +kernel, by decide +kernel⟩, List.mem_of_getElem? (i := 28) (by decide +kernel), List.mem_of_getElem? (i := 253) (by decide +kernel), List.mem_of_getElem? (i := 254) (by decide +kernel)⟩
theorem lw_p1 : lw_okq (⟨"StatuteBook$Reader", "skipBlanks", "()V"⟩, 4) := ⟨⟨by decide +kernel, by decide +kernel⟩, List.mem_of_getElem? (i := 28) (by decide +kernel), List.mem_of_getElem? (i := 257) (by decide +kernel), List.mem_of_getElem? (i := 258) (by decide +kernel)⟩
theorem lw_p2 : lw_okq (⟨"StatuteBook$Reader", "readKind", "()I"⟩, 4) := ⟨⟨by decide +kernel, by decide +kernel⟩, List.mem_of_getElem? (i := 28) (by decide +kernel), List.mem_of_getElem? (i := 270) (by decide +kernel), List.mem_of_getElem? (i := 271) (by decide +kernel)⟩
theorem lw_p3 : lw_okq (⟨"StatuteBook$Reader", "passes", "(Ljava/lang/String;)Z"⟩, 4) := ⟨⟨by decide +kernel, by decide +kernel⟩, List.mem_of_getElem? (i := 28) (by decide +kernel), List.mem_of_getElem? (i := 275) (by decide +kernel), List.mem_of_getElem? (i := 276) (by decide +kernel)⟩
theorem lw_p4 : lw_okq (⟨"StatuteBook$Reader", "fail", "(I)V"⟩, 4) := ⟨⟨by decide +kernel, by decide +kernel⟩, List.mem_of_getElem? (i := 28) (by decide +kernel), List.mem_of_getElem? (i := 334) (by decide +kernel), List.mem_of_getElem? (i := 335) (by decide +kernel)⟩
theorem lw_p5 : lw_okq (⟨"StatuteBook$Reader", "readNumber", "()I"⟩, 4) := ⟨⟨by decide +kernel, by decide +kernel⟩, List.mem_of_getElem? (i := 28) (by decide +kernel), List.mem_of_getElem? (i := 338) (by decide +kernel), List.mem_of_getElem? (i := 339) (by decide +kernel)⟩
theorem lw_p6 : lw_okq (⟨"StatuteBook$Reader", "readDigits", "(I)I"⟩, 4) := ⟨⟨by decide +kernel, by decide +kernel⟩, List.mem_of_getElem? (i := 28) (by decide +kernel), List.mem_of_getElem? (i := 342) (by decide +kernel), List.mem_of_getElem? (i := 343) (by decide +kernel)⟩
theorem lw_p7 : lw_okq (⟨"StatuteBook$Reader", "readWords", "()V"⟩, 4) := ⟨⟨by decide +kernel, by decide +kernel⟩, List.mem_of_getElem? (i := 28) (by decide +kernel), List.mem_of_getElem? (i := 358) (by decide +kernel), List.mem_of_getElem? (i := 359) (by decide +kernel)⟩
theorem lw_p8 : lw_okq (⟨"StatuteBook$Reader", "isAtWord", "()Z"⟩, 4) := ⟨⟨by decide +kernel, by decide +kernel⟩, List.mem_of_getElem? (i := 28) (by decide +kernel), List.mem_of_getElem? (i := 362) (by decide +kernel), List.mem_of_getElem? (i := 363) (by decide +kernel)⟩
theorem lw_p9 : lw_okq (⟨"StatuteBook$Reader", "expect", "(Ljava/lang/String;)V"⟩, 4) := ⟨⟨by decide +kernel, by decide +kernel⟩, List.mem_of_getElem? (i := 28) (by decide +kernel), List.mem_of_getElem? (i := 375) (by decide +kernel), List.mem_of_getElem? (i := 376) (by decide +kernel)⟩
theorem lw_p10 : lw_okq (⟨"StatuteBook$Reader", "readPlain", "()I"⟩, 4) := ⟨⟨by decide +kernel, by decide +kernel⟩, List.mem_of_getElem? (i := 28) (by decide +kernel), List.mem_of_getElem? (i := 381) (by decide +kernel), List.mem_of_getElem? (i := 382) (by decide +kernel)⟩
theorem lw_p11 : lw_okq (⟨"StatuteBook$Reader", "readSaving", "()V"⟩, 4) := ⟨⟨by decide +kernel, by decide +kernel⟩, List.mem_of_getElem? (i := 28) (by decide +kernel), List.mem_of_getElem? (i := 386) (by decide +kernel), List.mem_of_getElem? (i := 387) (by decide +kernel)⟩
theorem lw_p12 : lw_okq (⟨"StatuteBook$Reader", "readSemicolon", "()Z"⟩, 4) := ⟨⟨by decide +kernel, by decide +kernel⟩, List.mem_of_getElem? (i := 28) (by decide +kernel), List.mem_of_getElem? (i := 391) (by decide +kernel), List.mem_of_getElem? (i := 392) (by decide +kernel)⟩
theorem lw_p13 : lw_okq (⟨"StatuteBook", "addDraft", "(I)I"⟩, 7) := ⟨⟨by decide +kernel, by decide +kernel⟩, List.mem_of_getElem? (i := 20) (by decide +kernel), List.mem_of_getElem? (i := 395) (by decide +kernel), List.mem_of_getElem? (i := 396) (by decide +kernel)⟩
theorem lw_p14 : lw_okq (⟨"StatuteBook$Archive", "putAway", "(ILStatuteBook$Amendments;)V"⟩, 4) := ⟨⟨by decide +kernel, by decide +kernel⟩, List.mem_of_getElem? (i := 109) (by decide +kernel), List.mem_of_getElem? (i := 426) (by decide +kernel), List.mem_of_getElem? (i := 427) (by decide +kernel)⟩
theorem lw_p15 : lw_okq (⟨"StatuteBook$Archive", "bring", "(ILStatuteBook$Amendments;)V"⟩, 4) := ⟨⟨by decide +kernel, by decide +kernel⟩, List.mem_of_getElem? (i := 109) (by decide +kernel), List.mem_of_getElem? (i := 508) (by decide +kernel), List.mem_of_getElem? (i := 509) (by decide +kernel)⟩
def lw_privs_1 : List (MethodName × Nat) := [(⟨"StatuteBook$Reader", "readOperation", "()V"⟩, 4), (⟨"StatuteBook$Reader", "skipBlanks", "()V"⟩, 4), (⟨"StatuteBook$Reader", "readKind", "()I"⟩, 4), (⟨"StatuteBook$Reader", "passes", "(Ljava/lang/String;)Z"⟩, 4), (⟨"StatuteBook$Reader", "fail", "(I)V"⟩, 4), (⟨"StatuteBook$Reader", "readNumber", "()I"⟩, 4), (⟨"StatuteBook$Reader", "readDigits", "(I)I"⟩, 4), (⟨"StatuteBook$Reader", "readWords", "()V"⟩, 4), (⟨"StatuteBook$Reader", "isAtWord", "()Z"⟩, 4), (⟨"StatuteBook$Reader", "expect", "(Ljava/lang/String;)V"⟩, 4), (⟨"StatuteBook$Reader", "readPlain", "()I"⟩, 4), (⟨"StatuteBook$Reader", "readSaving", "()V"⟩, 4), (⟨"StatuteBook$Reader", "readSemicolon", "()Z"⟩, 4), (⟨"StatuteBook", "addDraft", "(I)I"⟩, 7), (⟨"StatuteBook$Archive", "putAway", "(ILStatuteBook$Amendments;)V"⟩, 4), (⟨"StatuteBook$Archive", "bring", "(ILStatuteBook$Amendments;)V"⟩, 4)]
theorem lw_r1 : ∀ q ∈ lw_privs_1, lw_okq q := List.forall_mem_cons.mpr ⟨lw_p0, List.forall_mem_cons.mpr ⟨lw_p1, List.forall_mem_cons.mpr ⟨lw_p2, List.forall_mem_cons.mpr ⟨lw_p3, List.forall_mem_cons.mpr ⟨lw_p4, List.forall_mem_cons.mpr ⟨lw_p5, List.forall_mem_cons.mpr ⟨lw_p6, List.forall_mem_cons.mpr ⟨lw_p7, List.forall_mem_cons.mpr ⟨lw_p8, List.forall_mem_cons.mpr ⟨lw_p9, List.forall_mem_cons.mpr ⟨lw_p10, List.forall_mem_cons.mpr ⟨lw_p11, List.forall_mem_cons.mpr ⟨lw_p12, List.forall_mem_cons.mpr ⟨lw_p13, List.forall_mem_cons.mpr ⟨lw_p14, List.forall_mem_cons.mpr ⟨lw_p15, fun _ h => absurd h List.not_mem_nil⟩⟩⟩⟩⟩⟩⟩⟩⟩⟩⟩⟩⟩⟩⟩⟩
theorem lw_p16 : lw_okq (⟨"StatuteBook", "consolidateFully", "()V"⟩, 7) := ⟨⟨by decide +kernel, by decide +kernel⟩, List.mem_of_getElem? (i := 20) (by decide +kernel), List.mem_of_getElem? (i := 516) (by decide +kernel), List.mem_of_getElem? (i := 517) (by decide +kernel)⟩
theorem lw_p17 : lw_okq (⟨"StatuteBook$Law", "carryOut", "(LStatuteBook$Amendments;II)V"⟩, 11) := ⟨⟨by decide +kernel, by decide +kernel⟩, List.mem_of_getElem? (i := 130) (by decide +kernel), List.mem_of_getElem? (i := 536) (by decide +kernel), List.mem_of_getElem? (i := 537) (by decide +kernel)⟩
theorem lw_p18 : lw_okq (⟨"StatuteBook$Law", "holder", "(I)I"⟩, 11) := ⟨⟨by decide +kernel, by decide +kernel⟩, List.mem_of_getElem? (i := 130) (by decide +kernel), List.mem_of_getElem? (i := 542) (by decide +kernel), List.mem_of_getElem? (i := 543) (by decide +kernel)⟩
theorem lw_p19 : lw_okq (⟨"StatuteBook$Law", "resolves", "(LStatuteBook$Amendments;I)Z"⟩, 11) := ⟨⟨by decide +kernel, by decide +kernel⟩, List.mem_of_getElem? (i := 130) (by decide +kernel), List.mem_of_getElem? (i := 547) (by decide +kernel), List.mem_of_getElem? (i := 548) (by decide +kernel)⟩
theorem lw_p20 : lw_okq (⟨"StatuteBook$Law", "reason", "(LStatuteBook$Amendments;IIZ)I"⟩, 11) := ⟨⟨by decide +kernel, by decide +kernel⟩, List.mem_of_getElem? (i := 130) (by decide +kernel), List.mem_of_getElem? (i := 552) (by decide +kernel), List.mem_of_getElem? (i := 553) (by decide +kernel)⟩
theorem lw_p21 : lw_okq (⟨"StatuteBook$Law", "perform", "(LStatuteBook$Amendments;II)V"⟩, 11) := ⟨⟨by decide +kernel, by decide +kernel⟩, List.mem_of_getElem? (i := 130) (by decide +kernel), List.mem_of_getElem? (i := 560) (by decide +kernel), List.mem_of_getElem? (i := 561) (by decide +kernel)⟩
theorem lw_p22 : lw_okq (⟨"StatuteBook$Law", "setText", "(II)V"⟩, 11) := ⟨⟨by decide +kernel, by decide +kernel⟩, List.mem_of_getElem? (i := 130) (by decide +kernel), List.mem_of_getElem? (i := 564) (by decide +kernel), List.mem_of_getElem? (i := 565) (by decide +kernel)⟩
theorem lw_p23 : lw_okq (⟨"StatuteBook$Law", "change", "(III)V"⟩, 11) := ⟨⟨by decide +kernel, by decide +kernel⟩, List.mem_of_getElem? (i := 130) (by decide +kernel), List.mem_of_getElem? (i := 569) (by decide +kernel), List.mem_of_getElem? (i := 570) (by decide +kernel)⟩
theorem lw_p24 : lw_okq (⟨"StatuteBook$Law", "arrange", "()V"⟩, 11) := ⟨⟨by decide +kernel, by decide +kernel⟩, List.mem_of_getElem? (i := 130) (by decide +kernel), List.mem_of_getElem? (i := 573) (by decide +kernel), List.mem_of_getElem? (i := 574) (by decide +kernel)⟩
theorem lw_p25 : lw_okq (⟨"StatuteBook", "amendmentPart", "(II)I"⟩, 7) := ⟨⟨by decide +kernel, by decide +kernel⟩, List.mem_of_getElem? (i := 20) (by decide +kernel), List.mem_of_getElem? (i := 577) (by decide +kernel), List.mem_of_getElem? (i := 578) (by decide +kernel)⟩
theorem lw_p26 : lw_okq (⟨"StatuteBook", "operationPart", "(II)I"⟩, 7) := ⟨⟨by decide +kernel, by decide +kernel⟩, List.mem_of_getElem? (i := 20) (by decide +kernel), List.mem_of_getElem? (i := 604) (by decide +kernel), List.mem_of_getElem? (i := 605) (by decide +kernel)⟩
theorem lw_p27 : lw_okq (⟨"StatuteBook", "consolidate", "(II)V"⟩, 7) := ⟨⟨by decide +kernel, by decide +kernel⟩, List.mem_of_getElem? (i := 20) (by decide +kernel), List.mem_of_getElem? (i := 625) (by decide +kernel), List.mem_of_getElem? (i := 626) (by decide +kernel)⟩
theorem lw_p28 : lw_okq (⟨"StatuteBook", "clausePart", "(II)I"⟩, 7) := ⟨⟨by decide +kernel, by decide +kernel⟩, List.mem_of_getElem? (i := 20) (by decide +kernel), List.mem_of_getElem? (i := 641) (by decide +kernel), List.mem_of_getElem? (i := 642) (by decide +kernel)⟩
theorem lw_p29 : lw_okq (⟨"StatuteBook", "presentWord", "(II)I"⟩, 7) := ⟨⟨by decide +kernel, by decide +kernel⟩, List.mem_of_getElem? (i := 20) (by decide +kernel), List.mem_of_getElem? (i := 661) (by decide +kernel), List.mem_of_getElem? (i := 662) (by decide +kernel)⟩
theorem lw_p30 : lw_okq (⟨"StatuteBook", "printClause", "(I)V"⟩, 7) := ⟨⟨by decide +kernel, by decide +kernel⟩, List.mem_of_getElem? (i := 20) (by decide +kernel), List.mem_of_getElem? (i := 686) (by decide +kernel), List.mem_of_getElem? (i := 687) (by decide +kernel)⟩
theorem lw_p31 : lw_okq (⟨"StatuteBook", "isIdentity", "(I)Z"⟩, 7) := ⟨⟨by decide +kernel, by decide +kernel⟩, List.mem_of_getElem? (i := 20) (by decide +kernel), List.mem_of_getElem? (i := 713) (by decide +kernel), List.mem_of_getElem? (i := 714) (by decide +kernel)⟩
def lw_privs_2 : List (MethodName × Nat) := [(⟨"StatuteBook", "consolidateFully", "()V"⟩, 7), (⟨"StatuteBook$Law", "carryOut", "(LStatuteBook$Amendments;II)V"⟩, 11), (⟨"StatuteBook$Law", "holder", "(I)I"⟩, 11), (⟨"StatuteBook$Law", "resolves", "(LStatuteBook$Amendments;I)Z"⟩, 11), (⟨"StatuteBook$Law", "reason", "(LStatuteBook$Amendments;IIZ)I"⟩, 11), (⟨"StatuteBook$Law", "perform", "(LStatuteBook$Amendments;II)V"⟩, 11), (⟨"StatuteBook$Law", "setText", "(II)V"⟩, 11), (⟨"StatuteBook$Law", "change", "(III)V"⟩, 11), (⟨"StatuteBook$Law", "arrange", "()V"⟩, 11), (⟨"StatuteBook", "amendmentPart", "(II)I"⟩, 7), (⟨"StatuteBook", "operationPart", "(II)I"⟩, 7), (⟨"StatuteBook", "consolidate", "(II)V"⟩, 7), (⟨"StatuteBook", "clausePart", "(II)I"⟩, 7), (⟨"StatuteBook", "presentWord", "(II)I"⟩, 7), (⟨"StatuteBook", "printClause", "(I)V"⟩, 7), (⟨"StatuteBook", "isIdentity", "(I)Z"⟩, 7)]
theorem lw_r2 : ∀ q ∈ lw_privs_2, lw_okq q := List.forall_mem_cons.mpr ⟨lw_p16, List.forall_mem_cons.mpr ⟨lw_p17, List.forall_mem_cons.mpr ⟨lw_p18, List.forall_mem_cons.mpr ⟨lw_p19, List.forall_mem_cons.mpr ⟨lw_p20, List.forall_mem_cons.mpr ⟨lw_p21, List.forall_mem_cons.mpr ⟨lw_p22, List.forall_mem_cons.mpr ⟨lw_p23, List.forall_mem_cons.mpr ⟨lw_p24, List.forall_mem_cons.mpr ⟨lw_p25, List.forall_mem_cons.mpr ⟨lw_p26, List.forall_mem_cons.mpr ⟨lw_p27, List.forall_mem_cons.mpr ⟨lw_p28, List.forall_mem_cons.mpr ⟨lw_p29, List.forall_mem_cons.mpr ⟨lw_p30, List.forall_mem_cons.mpr ⟨lw_p31, fun _ h => absurd h List.not_mem_nil⟩⟩⟩⟩⟩⟩⟩⟩⟩⟩⟩⟩⟩⟩⟩⟩
theorem lw_p32 : lw_okq (⟨"StatuteBook", "differs", "(II)Z"⟩, 7) := ⟨⟨by decide +kernel, by decide +kernel⟩, List.mem_of_getElem? (i := 20) (by decide +kernel), List.mem_of_getElem? (i := 731) (by decide +kernel), List.mem_of_getElem? (i := 732) (by decide +kernel)⟩
theorem lw_p33 : lw_okq (⟨"StatuteBook", "referencesFrom", "(II)I"⟩, 7) := ⟨⟨by decide +kernel, by decide +kernel⟩, List.mem_of_getElem? (i := 20) (by decide +kernel), List.mem_of_getElem? (i := 753) (by decide +kernel), List.mem_of_getElem? (i := 754) (by decide +kernel)⟩
theorem lw_p34 : lw_okq (⟨"StatuteBook$Walk", "meet", "(II)V"⟩, 4) := ⟨⟨by decide +kernel, by decide +kernel⟩, List.mem_of_getElem? (i := 172) (by decide +kernel), List.mem_of_getElem? (i := 770) (by decide +kernel), List.mem_of_getElem? (i := 771) (by decide +kernel)⟩
theorem lw_p35 : lw_okq (⟨"StatuteBook", "tallyPart", "(I)I"⟩, 7) := ⟨⟨by decide +kernel, by decide +kernel⟩, List.mem_of_getElem? (i := 20) (by decide +kernel), List.mem_of_getElem? (i := 795) (by decide +kernel), List.mem_of_getElem? (i := 796) (by decide +kernel)⟩
theorem lw_p36 : lw_okq (⟨"StatuteBook", "conflicts", "()I"⟩, 7) := ⟨⟨by decide +kernel, by decide +kernel⟩, List.mem_of_getElem? (i := 20) (by decide +kernel), List.mem_of_getElem? (i := 799) (by decide +kernel), List.mem_of_getElem? (i := 800) (by decide +kernel)⟩
theorem lw_p37 : lw_okq (⟨"StatuteBook", "clash", "(II)Z"⟩, 7) := ⟨⟨by decide +kernel, by decide +kernel⟩, List.mem_of_getElem? (i := 20) (by decide +kernel), List.mem_of_getElem? (i := 804) (by decide +kernel), List.mem_of_getElem? (i := 805) (by decide +kernel)⟩
theorem lw_p38 : lw_okq (⟨"StatuteBook", "conflictPart", "(III)I"⟩, 7) := ⟨⟨by decide +kernel, by decide +kernel⟩, List.mem_of_getElem? (i := 20) (by decide +kernel), List.mem_of_getElem? (i := 812) (by decide +kernel), List.mem_of_getElem? (i := 813) (by decide +kernel)⟩
theorem lw_p39 : lw_okq (⟨"StatuteBook", "vanishes", "(III)Z"⟩, 7) := ⟨⟨by decide +kernel, by decide +kernel⟩, List.mem_of_getElem? (i := 20) (by decide +kernel), List.mem_of_getElem? (i := 824) (by decide +kernel), List.mem_of_getElem? (i := 825) (by decide +kernel)⟩
theorem lw_p40 : lw_okq (⟨"StatuteBook", "isCarriedOut", "(II)Z"⟩, 7) := ⟨⟨by decide +kernel, by decide +kernel⟩, List.mem_of_getElem? (i := 20) (by decide +kernel), List.mem_of_getElem? (i := 828) (by decide +kernel), List.mem_of_getElem? (i := 829) (by decide +kernel)⟩
theorem lw_p41 : lw_okq (⟨"StatuteBook", "draftTidying", "(LStatuteBook$Draft;)V"⟩, 7) := ⟨⟨by decide +kernel, by decide +kernel⟩, List.mem_of_getElem? (i := 20) (by decide +kernel), List.mem_of_getElem? (i := 844) (by decide +kernel), List.mem_of_getElem? (i := 845) (by decide +kernel)⟩
theorem lw_p42 : lw_okq (⟨"StatuteBook", "countPart", "(I)I"⟩, 7) := ⟨⟨by decide +kernel, by decide +kernel⟩, List.mem_of_getElem? (i := 20) (by decide +kernel), List.mem_of_getElem? (i := 876) (by decide +kernel), List.mem_of_getElem? (i := 877) (by decide +kernel)⟩
theorem lw_p43 : lw_okq (⟨"StatuteBook", "mixedAmendment", "(JI)J"⟩, 7) := ⟨⟨by decide +kernel, by decide +kernel⟩, List.mem_of_getElem? (i := 20) (by decide +kernel), List.mem_of_getElem? (i := 900) (by decide +kernel), List.mem_of_getElem? (i := 901) (by decide +kernel)⟩
theorem lw_p44 : lw_okq (⟨"StatuteBook", "mixedClause", "(JI)J"⟩, 7) := ⟨⟨by decide +kernel, by decide +kernel⟩, List.mem_of_getElem? (i := 20) (by decide +kernel), List.mem_of_getElem? (i := 904) (by decide +kernel), List.mem_of_getElem? (i := 905) (by decide +kernel)⟩
theorem lw_p45 : lw_okq (⟨"StatuteBookModel", "readsAll", "()V"⟩, 31) := ⟨⟨by decide +kernel, by decide +kernel⟩, List.mem_of_getElem? (i := 911) (by decide +kernel), List.mem_of_getElem? (i := 1029) (by decide +kernel), List.mem_of_getElem? (i := 1030) (by decide +kernel)⟩
theorem lw_p46 : lw_okq (⟨"StatuteBookModel", "skips", "()V"⟩, 31) := ⟨⟨by decide +kernel, by decide +kernel⟩, List.mem_of_getElem? (i := 911) (by decide +kernel), List.mem_of_getElem? (i := 1033) (by decide +kernel), List.mem_of_getElem? (i := 1034) (by decide +kernel)⟩
theorem lw_p47 : lw_okq (⟨"StatuteBookModel", "byteAt", "(I)I"⟩, 31) := ⟨⟨by decide +kernel, by decide +kernel⟩, List.mem_of_getElem? (i := 911) (by decide +kernel), List.mem_of_getElem? (i := 1037) (by decide +kernel), List.mem_of_getElem? (i := 1038) (by decide +kernel)⟩
def lw_privs_3 : List (MethodName × Nat) := [(⟨"StatuteBook", "differs", "(II)Z"⟩, 7), (⟨"StatuteBook", "referencesFrom", "(II)I"⟩, 7), (⟨"StatuteBook$Walk", "meet", "(II)V"⟩, 4), (⟨"StatuteBook", "tallyPart", "(I)I"⟩, 7), (⟨"StatuteBook", "conflicts", "()I"⟩, 7), (⟨"StatuteBook", "clash", "(II)Z"⟩, 7), (⟨"StatuteBook", "conflictPart", "(III)I"⟩, 7), (⟨"StatuteBook", "vanishes", "(III)Z"⟩, 7), (⟨"StatuteBook", "isCarriedOut", "(II)Z"⟩, 7), (⟨"StatuteBook", "draftTidying", "(LStatuteBook$Draft;)V"⟩, 7), (⟨"StatuteBook", "countPart", "(I)I"⟩, 7), (⟨"StatuteBook", "mixedAmendment", "(JI)J"⟩, 7), (⟨"StatuteBook", "mixedClause", "(JI)J"⟩, 7), (⟨"StatuteBookModel", "readsAll", "()V"⟩, 31), (⟨"StatuteBookModel", "skips", "()V"⟩, 31), (⟨"StatuteBookModel", "byteAt", "(I)I"⟩, 31)]
theorem lw_r3 : ∀ q ∈ lw_privs_3, lw_okq q := List.forall_mem_cons.mpr ⟨lw_p32, List.forall_mem_cons.mpr ⟨lw_p33, List.forall_mem_cons.mpr ⟨lw_p34, List.forall_mem_cons.mpr ⟨lw_p35, List.forall_mem_cons.mpr ⟨lw_p36, List.forall_mem_cons.mpr ⟨lw_p37, List.forall_mem_cons.mpr ⟨lw_p38, List.forall_mem_cons.mpr ⟨lw_p39, List.forall_mem_cons.mpr ⟨lw_p40, List.forall_mem_cons.mpr ⟨lw_p41, List.forall_mem_cons.mpr ⟨lw_p42, List.forall_mem_cons.mpr ⟨lw_p43, List.forall_mem_cons.mpr ⟨lw_p44, List.forall_mem_cons.mpr ⟨lw_p45, List.forall_mem_cons.mpr ⟨lw_p46, List.forall_mem_cons.mpr ⟨lw_p47, fun _ h => absurd h List.not_mem_nil⟩⟩⟩⟩⟩⟩⟩⟩⟩⟩⟩⟩⟩⟩⟩⟩
theorem lw_p48 : lw_okq (⟨"StatuteBookModel", "readsOperation", "()V"⟩, 31) := ⟨⟨by decide +kernel, by decide +kernel⟩, List.mem_of_getElem? (i := 911) (by decide +kernel), List.mem_of_getElem? (i := 1041) (by decide +kernel), List.mem_of_getElem? (i := 1042) (by decide +kernel)⟩
theorem lw_p49 : lw_okq (⟨"StatuteBookModel", "fails", "(I)V"⟩, 31) := ⟨⟨by decide +kernel, by decide +kernel⟩, List.mem_of_getElem? (i := 911) (by decide +kernel), List.mem_of_getElem? (i := 1045) (by decide +kernel), List.mem_of_getElem? (i := 1046) (by decide +kernel)⟩
theorem lw_p50 : lw_okq (⟨"StatuteBookModel", "puts", "(II)V"⟩, 31) := ⟨⟨by decide +kernel, by decide +kernel⟩, List.mem_of_getElem? (i := 911) (by decide +kernel), List.mem_of_getElem? (i := 1049) (by decide +kernel), List.mem_of_getElem? (i := 1050) (by decide +kernel)⟩
theorem lw_p51 : lw_okq (⟨"StatuteBookModel", "readsLetters", "()J"⟩, 31) := ⟨⟨by decide +kernel, by decide +kernel⟩, List.mem_of_getElem? (i := 911) (by decide +kernel), List.mem_of_getElem? (i := 1053) (by decide +kernel), List.mem_of_getElem? (i := 1054) (by decide +kernel)⟩
theorem lw_p52 : lw_okq (⟨"StatuteBookModel", "isSmall", "(I)Z"⟩, 31) := ⟨⟨by decide +kernel, by decide +kernel⟩, List.mem_of_getElem? (i := 911) (by decide +kernel), List.mem_of_getElem? (i := 1057) (by decide +kernel), List.mem_of_getElem? (i := 1058) (by decide +kernel)⟩
theorem lw_p53 : lw_okq (⟨"StatuteBookModel", "numberBehindBlanks", "()I"⟩, 31) := ⟨⟨by decide +kernel, by decide +kernel⟩, List.mem_of_getElem? (i := 911) (by decide +kernel), List.mem_of_getElem? (i := 1070) (by decide +kernel), List.mem_of_getElem? (i := 1071) (by decide +kernel)⟩
theorem lw_p54 : lw_okq (⟨"StatuteBookModel", "readsNumber", "()I"⟩, 31) := ⟨⟨by decide +kernel, by decide +kernel⟩, List.mem_of_getElem? (i := 911) (by decide +kernel), List.mem_of_getElem? (i := 1074) (by decide +kernel), List.mem_of_getElem? (i := 1075) (by decide +kernel)⟩
theorem lw_p55 : lw_okq (⟨"StatuteBookModel", "readsDigits", "(Z)I"⟩, 31) := ⟨⟨by decide +kernel, by decide +kernel⟩, List.mem_of_getElem? (i := 911) (by decide +kernel), List.mem_of_getElem? (i := 1078) (by decide +kernel), List.mem_of_getElem? (i := 1079) (by decide +kernel)⟩
theorem lw_p56 : lw_okq (⟨"StatuteBookModel", "isDigit", "(I)Z"⟩, 31) := ⟨⟨by decide +kernel, by decide +kernel⟩, List.mem_of_getElem? (i := 911) (by decide +kernel), List.mem_of_getElem? (i := 1082) (by decide +kernel), List.mem_of_getElem? (i := 1083) (by decide +kernel)⟩
theorem lw_p57 : lw_okq (⟨"StatuteBookModel", "letter", "()I"⟩, 31) := ⟨⟨by decide +kernel, by decide +kernel⟩, List.mem_of_getElem? (i := 911) (by decide +kernel), List.mem_of_getElem? (i := 1086) (by decide +kernel), List.mem_of_getElem? (i := 1087) (by decide +kernel)⟩
theorem lw_p58 : lw_okq (⟨"StatuteBookModel", "readsWords", "()V"⟩, 31) := ⟨⟨by decide +kernel, by decide +kernel⟩, List.mem_of_getElem? (i := 911) (by decide +kernel), List.mem_of_getElem? (i := 1090) (by decide +kernel), List.mem_of_getElem? (i := 1091) (by decide +kernel)⟩
theorem lw_p59 : lw_okq (⟨"StatuteBookModel", "needsWord", "(J)V"⟩, 31) := ⟨⟨by decide +kernel, by decide +kernel⟩, List.mem_of_getElem? (i := 911) (by decide +kernel), List.mem_of_getElem? (i := 1094) (by decide +kernel), List.mem_of_getElem? (i := 1095) (by decide +kernel)⟩
theorem lw_p60 : lw_okq (⟨"StatuteBookModel", "plainBehindBlanks", "()I"⟩, 31) := ⟨⟨by decide +kernel, by decide +kernel⟩, List.mem_of_getElem? (i := 911) (by decide +kernel), List.mem_of_getElem? (i := 1098) (by decide +kernel), List.mem_of_getElem? (i := 1099) (by decide +kernel)⟩
theorem lw_p61 : lw_okq (⟨"StatuteBookModel", "readsSaving", "()V"⟩, 31) := ⟨⟨by decide +kernel, by decide +kernel⟩, List.mem_of_getElem? (i := 911) (by decide +kernel), List.mem_of_getElem? (i := 1102) (by decide +kernel), List.mem_of_getElem? (i := 1103) (by decide +kernel)⟩
theorem lw_p62 : lw_okq (⟨"StatuteBookModel", "adds", "(I)I"⟩, 31) := ⟨⟨by decide +kernel, by decide +kernel⟩, List.mem_of_getElem? (i := 911) (by decide +kernel), List.mem_of_getElem? (i := 1106) (by decide +kernel), List.mem_of_getElem? (i := 1107) (by decide +kernel)⟩
theorem lw_p63 : lw_okq (⟨"StatuteBookModel", "readInserts", "()I"⟩, 31) := ⟨⟨by decide +kernel, by decide +kernel⟩, List.mem_of_getElem? (i := 911) (by decide +kernel), List.mem_of_getElem? (i := 1110) (by decide +kernel), List.mem_of_getElem? (i := 1111) (by decide +kernel)⟩
def lw_privs_4 : List (MethodName × Nat) := [(⟨"StatuteBookModel", "readsOperation", "()V"⟩, 31), (⟨"StatuteBookModel", "fails", "(I)V"⟩, 31), (⟨"StatuteBookModel", "puts", "(II)V"⟩, 31), (⟨"StatuteBookModel", "readsLetters", "()J"⟩, 31), (⟨"StatuteBookModel", "isSmall", "(I)Z"⟩, 31), (⟨"StatuteBookModel", "numberBehindBlanks", "()I"⟩, 31), (⟨"StatuteBookModel", "readsNumber", "()I"⟩, 31), (⟨"StatuteBookModel", "readsDigits", "(Z)I"⟩, 31), (⟨"StatuteBookModel", "isDigit", "(I)Z"⟩, 31), (⟨"StatuteBookModel", "letter", "()I"⟩, 31), (⟨"StatuteBookModel", "readsWords", "()V"⟩, 31), (⟨"StatuteBookModel", "needsWord", "(J)V"⟩, 31), (⟨"StatuteBookModel", "plainBehindBlanks", "()I"⟩, 31), (⟨"StatuteBookModel", "readsSaving", "()V"⟩, 31), (⟨"StatuteBookModel", "adds", "(I)I"⟩, 31), (⟨"StatuteBookModel", "readInserts", "()I"⟩, 31)]
theorem lw_r4 : ∀ q ∈ lw_privs_4, lw_okq q := List.forall_mem_cons.mpr ⟨lw_p48, List.forall_mem_cons.mpr ⟨lw_p49, List.forall_mem_cons.mpr ⟨lw_p50, List.forall_mem_cons.mpr ⟨lw_p51, List.forall_mem_cons.mpr ⟨lw_p52, List.forall_mem_cons.mpr ⟨lw_p53, List.forall_mem_cons.mpr ⟨lw_p54, List.forall_mem_cons.mpr ⟨lw_p55, List.forall_mem_cons.mpr ⟨lw_p56, List.forall_mem_cons.mpr ⟨lw_p57, List.forall_mem_cons.mpr ⟨lw_p58, List.forall_mem_cons.mpr ⟨lw_p59, List.forall_mem_cons.mpr ⟨lw_p60, List.forall_mem_cons.mpr ⟨lw_p61, List.forall_mem_cons.mpr ⟨lw_p62, List.forall_mem_cons.mpr ⟨lw_p63, fun _ h => absurd h List.not_mem_nil⟩⟩⟩⟩⟩⟩⟩⟩⟩⟩⟩⟩⟩⟩⟩⟩
theorem lw_p64 : lw_okq (⟨"StatuteBookModel", "operations", "()I"⟩, 31) := ⟨⟨by decide +kernel, by decide +kernel⟩, List.mem_of_getElem? (i := 911) (by decide +kernel), List.mem_of_getElem? (i := 1114) (by decide +kernel), List.mem_of_getElem? (i := 1115) (by decide +kernel)⟩
theorem lw_p65 : lw_okq (⟨"StatuteBookModel", "identities", "()I"⟩, 31) := ⟨⟨by decide +kernel, by decide +kernel⟩, List.mem_of_getElem? (i := 911) (by decide +kernel), List.mem_of_getElem? (i := 1118) (by decide +kernel), List.mem_of_getElem? (i := 1119) (by decide +kernel)⟩
theorem lw_p66 : lw_okq (⟨"StatuteBookModel", "identitiesAhead", "(I)I"⟩, 31) := ⟨⟨by decide +kernel, by decide +kernel⟩, List.mem_of_getElem? (i := 911) (by decide +kernel), List.mem_of_getElem? (i := 1122) (by decide +kernel), List.mem_of_getElem? (i := 1123) (by decide +kernel)⟩
theorem lw_p67 : lw_okq (⟨"StatuteBookModel", "part", "(II)I"⟩, 31) := ⟨⟨by decide +kernel, by decide +kernel⟩, List.mem_of_getElem? (i := 911) (by decide +kernel), List.mem_of_getElem? (i := 1126) (by decide +kernel), List.mem_of_getElem? (i := 1127) (by decide +kernel)⟩
theorem lw_p68 : lw_okq (⟨"StatuteBookModel", "keeps", "()V"⟩, 31) := ⟨⟨by decide +kernel, by decide +kernel⟩, List.mem_of_getElem? (i := 911) (by decide +kernel), List.mem_of_getElem? (i := 1130) (by decide +kernel), List.mem_of_getElem? (i := 1131) (by decide +kernel)⟩
theorem lw_p69 : lw_okq (⟨"StatuteBookModel", "isAmendment", "(I)Z"⟩, 31) := ⟨⟨by decide +kernel, by decide +kernel⟩, List.mem_of_getElem? (i := 911) (by decide +kernel), List.mem_of_getElem? (i := 1138) (by decide +kernel), List.mem_of_getElem? (i := 1139) (by decide +kernel)⟩
theorem lw_p70 : lw_okq (⟨"StatuteBookModel", "fullLaw", "()V"⟩, 31) := ⟨⟨by decide +kernel, by decide +kernel⟩, List.mem_of_getElem? (i := 911) (by decide +kernel), List.mem_of_getElem? (i := 1158) (by decide +kernel), List.mem_of_getElem? (i := 1159) (by decide +kernel)⟩
theorem lw_p71 : lw_okq (⟨"StatuteBookModel", "laws", "(II)V"⟩, 31) := ⟨⟨by decide +kernel, by decide +kernel⟩, List.mem_of_getElem? (i := 911) (by decide +kernel), List.mem_of_getElem? (i := 1162) (by decide +kernel), List.mem_of_getElem? (i := 1163) (by decide +kernel)⟩
theorem lw_p72 : lw_okq (⟨"StatuteBookModel", "offAsRevoked", "()V"⟩, 31) := ⟨⟨by decide +kernel, by decide +kernel⟩, List.mem_of_getElem? (i := 911) (by decide +kernel), List.mem_of_getElem? (i := 1166) (by decide +kernel), List.mem_of_getElem? (i := 1167) (by decide +kernel)⟩
theorem lw_p73 : lw_okq (⟨"StatuteBookModel", "consolidates", "(II)V"⟩, 31) := ⟨⟨by decide +kernel, by decide +kernel⟩, List.mem_of_getElem? (i := 911) (by decide +kernel), List.mem_of_getElem? (i := 1170) (by decide +kernel), List.mem_of_getElem? (i := 1171) (by decide +kernel)⟩
theorem lw_p74 : lw_okq (⟨"StatuteBookModel", "nextAmendment", "(III)I"⟩, 31) := ⟨⟨by decide +kernel, by decide +kernel⟩, List.mem_of_getElem? (i := 911) (by decide +kernel), List.mem_of_getElem? (i := 1174) (by decide +kernel), List.mem_of_getElem? (i := 1175) (by decide +kernel)⟩
theorem lw_p75 : lw_okq (⟨"StatuteBookModel", "firstOf", "(I)I"⟩, 31) := ⟨⟨by decide +kernel, by decide +kernel⟩, List.mem_of_getElem? (i := 911) (by decide +kernel), List.mem_of_getElem? (i := 1178) (by decide +kernel), List.mem_of_getElem? (i := 1179) (by decide +kernel)⟩
theorem lw_p76 : lw_okq (⟨"StatuteBookModel", "carriesOut", "(II)V"⟩, 31) := ⟨⟨by decide +kernel, by decide +kernel⟩, List.mem_of_getElem? (i := 911) (by decide +kernel), List.mem_of_getElem? (i := 1182) (by decide +kernel), List.mem_of_getElem? (i := 1183) (by decide +kernel)⟩
theorem lw_p77 : lw_okq (⟨"StatuteBookModel", "withCode", "(I)I"⟩, 31) := ⟨⟨by decide +kernel, by decide +kernel⟩, List.mem_of_getElem? (i := 911) (by decide +kernel), List.mem_of_getElem? (i := 1186) (by decide +kernel), List.mem_of_getElem? (i := 1187) (by decide +kernel)⟩
theorem lw_p78 : lw_okq (⟨"StatuteBookModel", "reasonOf", "(II)I"⟩, 31) := ⟨⟨by decide +kernel, by decide +kernel⟩, List.mem_of_getElem? (i := 911) (by decide +kernel), List.mem_of_getElem? (i := 1190) (by decide +kernel), List.mem_of_getElem? (i := 1191) (by decide +kernel)⟩
theorem lw_p79 : lw_okq (⟨"StatuteBookModel", "hasWord", "(II)Z"⟩, 31) := ⟨⟨by decide +kernel, by decide +kernel⟩, List.mem_of_getElem? (i := 911) (by decide +kernel), List.mem_of_getElem? (i := 1194) (by decide +kernel), List.mem_of_getElem? (i := 1195) (by decide +kernel)⟩
def lw_privs_5 : List (MethodName × Nat) := [(⟨"StatuteBookModel", "operations", "()I"⟩, 31), (⟨"StatuteBookModel", "identities", "()I"⟩, 31), (⟨"StatuteBookModel", "identitiesAhead", "(I)I"⟩, 31), (⟨"StatuteBookModel", "part", "(II)I"⟩, 31), (⟨"StatuteBookModel", "keeps", "()V"⟩, 31), (⟨"StatuteBookModel", "isAmendment", "(I)Z"⟩, 31), (⟨"StatuteBookModel", "fullLaw", "()V"⟩, 31), (⟨"StatuteBookModel", "laws", "(II)V"⟩, 31), (⟨"StatuteBookModel", "offAsRevoked", "()V"⟩, 31), (⟨"StatuteBookModel", "consolidates", "(II)V"⟩, 31), (⟨"StatuteBookModel", "nextAmendment", "(III)I"⟩, 31), (⟨"StatuteBookModel", "firstOf", "(I)I"⟩, 31), (⟨"StatuteBookModel", "carriesOut", "(II)V"⟩, 31), (⟨"StatuteBookModel", "withCode", "(I)I"⟩, 31), (⟨"StatuteBookModel", "reasonOf", "(II)I"⟩, 31), (⟨"StatuteBookModel", "hasWord", "(II)Z"⟩, 31)]
theorem lw_r5 : ∀ q ∈ lw_privs_5, lw_okq q := List.forall_mem_cons.mpr ⟨lw_p64, List.forall_mem_cons.mpr ⟨lw_p65, List.forall_mem_cons.mpr ⟨lw_p66, List.forall_mem_cons.mpr ⟨lw_p67, List.forall_mem_cons.mpr ⟨lw_p68, List.forall_mem_cons.mpr ⟨lw_p69, List.forall_mem_cons.mpr ⟨lw_p70, List.forall_mem_cons.mpr ⟨lw_p71, List.forall_mem_cons.mpr ⟨lw_p72, List.forall_mem_cons.mpr ⟨lw_p73, List.forall_mem_cons.mpr ⟨lw_p74, List.forall_mem_cons.mpr ⟨lw_p75, List.forall_mem_cons.mpr ⟨lw_p76, List.forall_mem_cons.mpr ⟨lw_p77, List.forall_mem_cons.mpr ⟨lw_p78, List.forall_mem_cons.mpr ⟨lw_p79, fun _ h => absurd h List.not_mem_nil⟩⟩⟩⟩⟩⟩⟩⟩⟩⟩⟩⟩⟩⟩⟩⟩
theorem lw_p80 : lw_okq (⟨"StatuteBookModel", "areReferred", "(I)Z"⟩, 31) := ⟨⟨by decide +kernel, by decide +kernel⟩, List.mem_of_getElem? (i := 911) (by decide +kernel), List.mem_of_getElem? (i := 1198) (by decide +kernel), List.mem_of_getElem? (i := 1199) (by decide +kernel)⟩
theorem lw_p81 : lw_okq (⟨"StatuteBookModel", "setsText", "(II)V"⟩, 31) := ⟨⟨by decide +kernel, by decide +kernel⟩, List.mem_of_getElem? (i := 911) (by decide +kernel), List.mem_of_getElem? (i := 1202) (by decide +kernel), List.mem_of_getElem? (i := 1203) (by decide +kernel)⟩
theorem lw_p82 : lw_okq (⟨"StatuteBookModel", "statusOf", "(I)I"⟩, 31) := ⟨⟨by decide +kernel, by decide +kernel⟩, List.mem_of_getElem? (i := 911) (by decide +kernel), List.mem_of_getElem? (i := 1206) (by decide +kernel), List.mem_of_getElem? (i := 1207) (by decide +kernel)⟩
theorem lw_p83 : lw_okq (⟨"StatuteBookModel", "amendmentOf", "(I)I"⟩, 31) := ⟨⟨by decide +kernel, by decide +kernel⟩, List.mem_of_getElem? (i := 911) (by decide +kernel), List.mem_of_getElem? (i := 1210) (by decide +kernel), List.mem_of_getElem? (i := 1211) (by decide +kernel)⟩
theorem lw_p84 : lw_okq (⟨"StatuteBookModel", "isOperation", "(II)Z"⟩, 31) := ⟨⟨by decide +kernel, by decide +kernel⟩, List.mem_of_getElem? (i := 911) (by decide +kernel), List.mem_of_getElem? (i := 1218) (by decide +kernel), List.mem_of_getElem? (i := 1219) (by decide +kernel)⟩
theorem lw_p85 : lw_okq (⟨"StatuteBookModel", "told", "(II)I"⟩, 31) := ⟨⟨by decide +kernel, by decide +kernel⟩, List.mem_of_getElem? (i := 911) (by decide +kernel), List.mem_of_getElem? (i := 1222) (by decide +kernel), List.mem_of_getElem? (i := 1223) (by decide +kernel)⟩
theorem lw_p86 : lw_okq (⟨"StatuteBookModel", "inForce", "()I"⟩, 31) := ⟨⟨by decide +kernel, by decide +kernel⟩, List.mem_of_getElem? (i := 911) (by decide +kernel), List.mem_of_getElem? (i := 1237) (by decide +kernel), List.mem_of_getElem? (i := 1238) (by decide +kernel)⟩
theorem lw_p87 : lw_okq (⟨"StatuteBookModel", "atIndex", "(I)I"⟩, 31) := ⟨⟨by decide +kernel, by decide +kernel⟩, List.mem_of_getElem? (i := 911) (by decide +kernel), List.mem_of_getElem? (i := 1245) (by decide +kernel), List.mem_of_getElem? (i := 1246) (by decide +kernel)⟩
theorem lw_p88 : lw_okq (⟨"StatuteBookModel", "indexOf", "(I)I"⟩, 31) := ⟨⟨by decide +kernel, by decide +kernel⟩, List.mem_of_getElem? (i := 911) (by decide +kernel), List.mem_of_getElem? (i := 1249) (by decide +kernel), List.mem_of_getElem? (i := 1250) (by decide +kernel)⟩
theorem lw_p89 : lw_okq (⟨"StatuteBookModel", "about", "(II)I"⟩, 31) := ⟨⟨by decide +kernel, by decide +kernel⟩, List.mem_of_getElem? (i := 911) (by decide +kernel), List.mem_of_getElem? (i := 1253) (by decide +kernel), List.mem_of_getElem? (i := 1254) (by decide +kernel)⟩
theorem lw_p90 : lw_okq (⟨"StatuteBookModel", "toldWord", "(II)I"⟩, 31) := ⟨⟨by decide +kernel, by decide +kernel⟩, List.mem_of_getElem? (i := 911) (by decide +kernel), List.mem_of_getElem? (i := 1261) (by decide +kernel), List.mem_of_getElem? (i := 1262) (by decide +kernel)⟩
theorem lw_p91 : lw_okq (⟨"StatuteBookModel", "printsNumber", "(I)V"⟩, 31) := ⟨⟨by decide +kernel, by decide +kernel⟩, List.mem_of_getElem? (i := 911) (by decide +kernel), List.mem_of_getElem? (i := 1277) (by decide +kernel), List.mem_of_getElem? (i := 1278) (by decide +kernel)⟩
theorem lw_p92 : lw_okq (⟨"StatuteBookModel", "printsInteger", "(I)V"⟩, 31) := ⟨⟨by decide +kernel, by decide +kernel⟩, List.mem_of_getElem? (i := 911) (by decide +kernel), List.mem_of_getElem? (i := 1281) (by decide +kernel), List.mem_of_getElem? (i := 1282) (by decide +kernel)⟩
theorem lw_p93 : lw_okq (⟨"StatuteBookModel", "prints", "(I)V"⟩, 31) := ⟨⟨by decide +kernel, by decide +kernel⟩, List.mem_of_getElem? (i := 911) (by decide +kernel), List.mem_of_getElem? (i := 1285) (by decide +kernel), List.mem_of_getElem? (i := 1286) (by decide +kernel)⟩
theorem lw_p94 : lw_okq (⟨"StatuteBookModel", "isIdentity", "(I)Z"⟩, 31) := ⟨⟨by decide +kernel, by decide +kernel⟩, List.mem_of_getElem? (i := 911) (by decide +kernel), List.mem_of_getElem? (i := 1297) (by decide +kernel), List.mem_of_getElem? (i := 1298) (by decide +kernel)⟩
theorem lw_p95 : lw_okq (⟨"StatuteBookModel", "setsAside", "()V"⟩, 31) := ⟨⟨by decide +kernel, by decide +kernel⟩, List.mem_of_getElem? (i := 911) (by decide +kernel), List.mem_of_getElem? (i := 1305) (by decide +kernel), List.mem_of_getElem? (i := 1306) (by decide +kernel)⟩
def lw_privs_6 : List (MethodName × Nat) := [(⟨"StatuteBookModel", "areReferred", "(I)Z"⟩, 31), (⟨"StatuteBookModel", "setsText", "(II)V"⟩, 31), (⟨"StatuteBookModel", "statusOf", "(I)I"⟩, 31), (⟨"StatuteBookModel", "amendmentOf", "(I)I"⟩, 31), (⟨"StatuteBookModel", "isOperation", "(II)Z"⟩, 31), (⟨"StatuteBookModel", "told", "(II)I"⟩, 31), (⟨"StatuteBookModel", "inForce", "()I"⟩, 31), (⟨"StatuteBookModel", "atIndex", "(I)I"⟩, 31), (⟨"StatuteBookModel", "indexOf", "(I)I"⟩, 31), (⟨"StatuteBookModel", "about", "(II)I"⟩, 31), (⟨"StatuteBookModel", "toldWord", "(II)I"⟩, 31), (⟨"StatuteBookModel", "printsNumber", "(I)V"⟩, 31), (⟨"StatuteBookModel", "printsInteger", "(I)V"⟩, 31), (⟨"StatuteBookModel", "prints", "(I)V"⟩, 31), (⟨"StatuteBookModel", "isIdentity", "(I)Z"⟩, 31), (⟨"StatuteBookModel", "setsAside", "()V"⟩, 31)]
theorem lw_r6 : ∀ q ∈ lw_privs_6, lw_okq q := List.forall_mem_cons.mpr ⟨lw_p80, List.forall_mem_cons.mpr ⟨lw_p81, List.forall_mem_cons.mpr ⟨lw_p82, List.forall_mem_cons.mpr ⟨lw_p83, List.forall_mem_cons.mpr ⟨lw_p84, List.forall_mem_cons.mpr ⟨lw_p85, List.forall_mem_cons.mpr ⟨lw_p86, List.forall_mem_cons.mpr ⟨lw_p87, List.forall_mem_cons.mpr ⟨lw_p88, List.forall_mem_cons.mpr ⟨lw_p89, List.forall_mem_cons.mpr ⟨lw_p90, List.forall_mem_cons.mpr ⟨lw_p91, List.forall_mem_cons.mpr ⟨lw_p92, List.forall_mem_cons.mpr ⟨lw_p93, List.forall_mem_cons.mpr ⟨lw_p94, List.forall_mem_cons.mpr ⟨lw_p95, fun _ h => absurd h List.not_mem_nil⟩⟩⟩⟩⟩⟩⟩⟩⟩⟩⟩⟩⟩⟩⟩⟩
theorem lw_p96 : lw_okq (⟨"StatuteBookModel", "isSameText", "(I)Z"⟩, 31) := ⟨⟨by decide +kernel, by decide +kernel⟩, List.mem_of_getElem? (i := 911) (by decide +kernel), List.mem_of_getElem? (i := 1309) (by decide +kernel), List.mem_of_getElem? (i := 1310) (by decide +kernel)⟩
theorem lw_p97 : lw_okq (⟨"StatuteBookModel", "withWord", "(I)I"⟩, 31) := ⟨⟨by decide +kernel, by decide +kernel⟩, List.mem_of_getElem? (i := 911) (by decide +kernel), List.mem_of_getElem? (i := 1317) (by decide +kernel), List.mem_of_getElem? (i := 1318) (by decide +kernel)⟩
theorem lw_p98 : lw_okq (⟨"StatuteBookModel", "spreads", "(I)Z"⟩, 31) := ⟨⟨by decide +kernel, by decide +kernel⟩, List.mem_of_getElem? (i := 911) (by decide +kernel), List.mem_of_getElem? (i := 1329) (by decide +kernel), List.mem_of_getElem? (i := 1330) (by decide +kernel)⟩
theorem lw_p99 : lw_okq (⟨"StatuteBookModel", "refers", "(II)Z"⟩, 31) := ⟨⟨by decide +kernel, by decide +kernel⟩, List.mem_of_getElem? (i := 911) (by decide +kernel), List.mem_of_getElem? (i := 1333) (by decide +kernel), List.mem_of_getElem? (i := 1334) (by decide +kernel)⟩
theorem lw_p100 : lw_okq (⟨"StatuteBookModel", "areInConflict", "(II)Z"⟩, 31) := ⟨⟨by decide +kernel, by decide +kernel⟩, List.mem_of_getElem? (i := 911) (by decide +kernel), List.mem_of_getElem? (i := 1341) (by decide +kernel), List.mem_of_getElem? (i := 1342) (by decide +kernel)⟩
theorem lw_p101 : lw_okq (⟨"StatuteBookModel", "ofConflict", "(III)I"⟩, 31) := ⟨⟨by decide +kernel, by decide +kernel⟩, List.mem_of_getElem? (i := 911) (by decide +kernel), List.mem_of_getElem? (i := 1349) (by decide +kernel), List.mem_of_getElem? (i := 1350) (by decide +kernel)⟩
theorem lw_p102 : lw_okq (⟨"StatuteBookModel", "isGone", "(IIII)Z"⟩, 31) := ⟨⟨by decide +kernel, by decide +kernel⟩, List.mem_of_getElem? (i := 911) (by decide +kernel), List.mem_of_getElem? (i := 1361) (by decide +kernel), List.mem_of_getElem? (i := 1362) (by decide +kernel)⟩
theorem lw_p103 : lw_okq (⟨"StatuteBookModel", "renumbers", "(II)V"⟩, 31) := ⟨⟨by decide +kernel, by decide +kernel⟩, List.mem_of_getElem? (i := 911) (by decide +kernel), List.mem_of_getElem? (i := 1376) (by decide +kernel), List.mem_of_getElem? (i := 1377) (by decide +kernel)⟩
theorem lw_p104 : lw_okq (⟨"StatuteBookModel", "revoked", "()I"⟩, 31) := ⟨⟨by decide +kernel, by decide +kernel⟩, List.mem_of_getElem? (i := 911) (by decide +kernel), List.mem_of_getElem? (i := 1392) (by decide +kernel), List.mem_of_getElem? (i := 1393) (by decide +kernel)⟩
theorem lw_p105 : lw_okq (⟨"StatuteBookModel", "mixes", "(J)V"⟩, 31) := ⟨⟨by decide +kernel, by decide +kernel⟩, List.mem_of_getElem? (i := 911) (by decide +kernel), List.mem_of_getElem? (i := 1403) (by decide +kernel), List.mem_of_getElem? (i := 1404) (by decide +kernel)⟩
theorem lw_p106 : lw_okq (⟨"StatuteBookModel", "mixesAmendment", "(I)V"⟩, 31) := ⟨⟨by decide +kernel, by decide +kernel⟩, List.mem_of_getElem? (i := 911) (by decide +kernel), List.mem_of_getElem? (i := 1408) (by decide +kernel), List.mem_of_getElem? (i := 1409) (by decide +kernel)⟩
theorem lw_p107 : lw_okq (⟨"StatuteBookModel", "mixesLaw", "()V"⟩, 31) := ⟨⟨by decide +kernel, by decide +kernel⟩, List.mem_of_getElem? (i := 911) (by decide +kernel), List.mem_of_getElem? (i := 1413) (by decide +kernel), List.mem_of_getElem? (i := 1414) (by decide +kernel)⟩
def lw_privs_7 : List (MethodName × Nat) := [(⟨"StatuteBookModel", "isSameText", "(I)Z"⟩, 31), (⟨"StatuteBookModel", "withWord", "(I)I"⟩, 31), (⟨"StatuteBookModel", "spreads", "(I)Z"⟩, 31), (⟨"StatuteBookModel", "refers", "(II)Z"⟩, 31), (⟨"StatuteBookModel", "areInConflict", "(II)Z"⟩, 31), (⟨"StatuteBookModel", "ofConflict", "(III)I"⟩, 31), (⟨"StatuteBookModel", "isGone", "(IIII)Z"⟩, 31), (⟨"StatuteBookModel", "renumbers", "(II)V"⟩, 31), (⟨"StatuteBookModel", "revoked", "()I"⟩, 31), (⟨"StatuteBookModel", "mixes", "(J)V"⟩, 31), (⟨"StatuteBookModel", "mixesAmendment", "(I)V"⟩, 31), (⟨"StatuteBookModel", "mixesLaw", "()V"⟩, 31)]
theorem lw_r7 : ∀ q ∈ lw_privs_7, lw_okq q := List.forall_mem_cons.mpr ⟨lw_p96, List.forall_mem_cons.mpr ⟨lw_p97, List.forall_mem_cons.mpr ⟨lw_p98, List.forall_mem_cons.mpr ⟨lw_p99, List.forall_mem_cons.mpr ⟨lw_p100, List.forall_mem_cons.mpr ⟨lw_p101, List.forall_mem_cons.mpr ⟨lw_p102, List.forall_mem_cons.mpr ⟨lw_p103, List.forall_mem_cons.mpr ⟨lw_p104, List.forall_mem_cons.mpr ⟨lw_p105, List.forall_mem_cons.mpr ⟨lw_p106, List.forall_mem_cons.mpr ⟨lw_p107, fun _ h => absurd h List.not_mem_nil⟩⟩⟩⟩⟩⟩⟩⟩⟩⟩⟩⟩
def lw_privs : List (MethodName × Nat) := lw_privs_1 ++ (lw_privs_2 ++ (lw_privs_3 ++ (lw_privs_4 ++ (lw_privs_5 ++ (lw_privs_6 ++ (lw_privs_7))))))
def lw_tbl : List Cond := k2_sels lw_privs ++ tables_1
theorem lw_privs_ok : ∀ q ∈ lw_privs, lw_okq q := by
  show ∀ q ∈ lw_privs_1 ++ (lw_privs_2 ++ (lw_privs_3 ++ (lw_privs_4 ++ (lw_privs_5 ++ (lw_privs_6 ++ (lw_privs_7)))))), lw_okq q
  exact List.forall_mem_append.mpr ⟨lw_r1, List.forall_mem_append.mpr ⟨lw_r2, List.forall_mem_append.mpr ⟨lw_r3, List.forall_mem_append.mpr ⟨lw_r4, List.forall_mem_append.mpr ⟨lw_r5, List.forall_mem_append.mpr ⟨lw_r6, lw_r7⟩⟩⟩⟩⟩⟩

/-- the words of the tables that stay, whatever is warmed -/
def am_tbl : List Cond := lw_tbl.filter goodWord
theorem am_mem {w : Cond} {i : Nat} (h : lw_tbl[i]? = some w) (g : goodWord w = true) : w ∈ am_tbl := List.mem_filter.mpr ⟨List.mem_of_getElem? h, g⟩
theorem am_tbl_good : am_tbl.all goodWord = true := List.all_eq_true.mpr fun w h => (List.mem_filter.mp h).2
theorem am_tbl_before {args : Array Value} {s : State} (h : ∀ w ∈ lw_tbl, w.before args s = true) : ∀ w ∈ am_tbl, w.before args s = true := fun w hw => h w (List.mem_filter.mp hw).1
def RX0 : String := "StatuteBook$Amendments"
def TX0 : u_T := fun k => match k with
  | _ => ("StatuteBook$Amendments", "cells", "LStatuteBook$Row;", true)
def tyX0 : Nat → FieldType := fun k => match k with
  | _ => .object "StatuteBook$Row"
abbrev wsX00 : List Cond := u_ws RX0 TX0 1
theorem nmX0 : ∀ a, a < 1 → ∀ b, b < 1 → a ≠ b → (TX0 a).2.1 ≠ (TX0 b).2.1 := by decide +kernel
theorem tyX0_ok : ∀ k, k < 1 → parseFieldDescriptor (TX0 k).2.2.1 = some (tyX0 k) := by decide +kernel
def RX1 : String := "StatuteBook$Archive"
def TX1 : u_T := fun k => match k with
  | 0 => ("StatuteBook$Archive", "cells", "LStatuteBook$Row;", true)
  | 1 => ("StatuteBook$Archive", "states", "I", false)
  | 2 => ("StatuteBook$Archive", "newest", "I", false)
  | _ => ("StatuteBook$Archive", "saved", "I", false)
def tyX1 : Nat → FieldType := fun k => match k with
  | 0 => .object "StatuteBook$Row"
  | 1 => .int
  | 2 => .int
  | _ => .int
abbrev wsX10 : List Cond := u_ws RX1 TX1 4
theorem nmX1 : ∀ a, a < 4 → ∀ b, b < 4 → a ≠ b → (TX1 a).2.1 ≠ (TX1 b).2.1 := by decide +kernel
theorem tyX1_ok : ∀ k, k < 4 → parseFieldDescriptor (TX1 k).2.2.1 = some (tyX1 k) := by decide +kernel
def RX2 : String := "StatuteBook$Draft"
def TX2 : u_T := fun k => match k with
  | 0 => ("StatuteBook$Draft", "cells", "LStatuteBook$Row;", true)
  | 1 => ("StatuteBook$Draft", "size", "I", false)
  | _ => ("StatuteBook$Draft", "inserts", "I", false)
def tyX2 : Nat → FieldType := fun k => match k with
  | 0 => .object "StatuteBook$Row"
  | 1 => .int
  | _ => .int
abbrev wsX20 : List Cond := u_ws RX2 TX2 3
theorem nmX2 : ∀ a, a < 3 → ∀ b, b < 3 → a ≠ b → (TX2 a).2.1 ≠ (TX2 b).2.1 := by decide +kernel
theorem tyX2_ok : ∀ k, k < 3 → parseFieldDescriptor (TX2 k).2.2.1 = some (tyX2 k) := by decide +kernel
def RX3 : String := "StatuteBook$Law"
def TX3 : u_T := fun k => match k with
  | 0 => ("StatuteBook$Law", "codes", "LStatuteBook$Row;", true)
  | 1 => ("StatuteBook$Law", "lastDays", "LStatuteBook$Row;", true)
  | 2 => ("StatuteBook$Law", "lengths", "LStatuteBook$Row;", true)
  | 3 => ("StatuteBook$Law", "texts", "LStatuteBook$Row;", true)
  | 4 => ("StatuteBook$Law", "order", "LStatuteBook$Row;", true)
  | 5 => ("StatuteBook$Law", "statuses", "LStatuteBook$Row;", true)
  | 6 => ("StatuteBook$Law", "affected", "LStatuteBook$Row;", true)
  | 7 => ("StatuteBook$Law", "effects", "LStatuteBook$Row;", true)
  | 8 => ("StatuteBook$Law", "resolved", "LStatuteBook$Row;", true)
  | 9 => ("StatuteBook$Law", "size", "I", false)
  | _ => ("StatuteBook$Law", "effectCount", "I", false)
def tyX3 : Nat → FieldType := fun k => match k with
  | 0 => .object "StatuteBook$Row"
  | 1 => .object "StatuteBook$Row"
  | 2 => .object "StatuteBook$Row"
  | 3 => .object "StatuteBook$Row"
  | 4 => .object "StatuteBook$Row"
  | 5 => .object "StatuteBook$Row"
  | 6 => .object "StatuteBook$Row"
  | 7 => .object "StatuteBook$Row"
  | 8 => .object "StatuteBook$Row"
  | 9 => .int
  | _ => .int
abbrev wsX30 : List Cond := u_ws RX3 TX3 11
theorem nmX3 : ∀ a, a < 11 → ∀ b, b < 11 → a ≠ b → (TX3 a).2.1 ≠ (TX3 b).2.1 := by decide +kernel
theorem tyX3_ok : ∀ k, k < 11 → parseFieldDescriptor (TX3 k).2.2.1 = some (tyX3 k) := by decide +kernel
def RX4 : String := "StatuteBook$Page"
def TX4 : u_T := fun k => match k with
  | 0 => ("StatuteBook$Page", "bytes", "[I", true)
  | _ => ("StatuteBook$Page", "written", "I", false)
def tyX4 : Nat → FieldType := fun k => match k with
  | 0 => .array .int
  | _ => .int
abbrev wsX40 : List Cond := u_ws RX4 TX4 2
theorem nmX4 : ∀ a, a < 2 → ∀ b, b < 2 → a ≠ b → (TX4 a).2.1 ≠ (TX4 b).2.1 := by decide +kernel
theorem tyX4_ok : ∀ k, k < 2 → parseFieldDescriptor (TX4 k).2.2.1 = some (tyX4 k) := by decide +kernel
def RX5 : String := "StatuteBook$Reader"
def TX5 : u_T := fun k => match k with
  | 0 => ("StatuteBook$Reader", "text", "LStatuteBook$Page;", true)
  | 1 => ("StatuteBook$Reader", "draft", "LStatuteBook$Draft;", true)
  | 2 => ("StatuteBook$Reader", "place", "I", false)
  | _ => ("StatuteBook$Reader", "fault", "I", false)
def tyX5 : Nat → FieldType := fun k => match k with
  | 0 => .object "StatuteBook$Page"
  | 1 => .object "StatuteBook$Draft"
  | 2 => .int
  | _ => .int
abbrev wsX50 : List Cond := u_ws RX5 TX5 4
theorem nmX5 : ∀ a, a < 4 → ∀ b, b < 4 → a ≠ b → (TX5 a).2.1 ≠ (TX5 b).2.1 := by decide +kernel
theorem tyX5_ok : ∀ k, k < 4 → parseFieldDescriptor (TX5 k).2.2.1 = some (tyX5 k) := by decide +kernel
def RX6 : String := "StatuteBook$Row"
def TX6 : u_T := fun k => match k with
  | _ => ("StatuteBook$Row", "cells", "[I", true)
def tyX6 : Nat → FieldType := fun k => match k with
  | _ => .array .int
abbrev wsX60 : List Cond := u_ws RX6 TX6 1
theorem nmX6 : ∀ a, a < 1 → ∀ b, b < 1 → a ≠ b → (TX6 a).2.1 ≠ (TX6 b).2.1 := by decide +kernel
theorem tyX6_ok : ∀ k, k < 1 → parseFieldDescriptor (TX6 k).2.2.1 = some (tyX6 k) := by decide +kernel
def RX7 : String := "StatuteBook$Walk"
def TX7 : u_T := fun k => match k with
  | 0 => ("StatuteBook$Walk", "distances", "LStatuteBook$Row;", true)
  | 1 => ("StatuteBook$Walk", "queue", "LStatuteBook$Row;", true)
  | 2 => ("StatuteBook$Walk", "reached", "I", false)
  | _ => ("StatuteBook$Walk", "comesBack", "Z", false)
def tyX7 : Nat → FieldType := fun k => match k with
  | 0 => .object "StatuteBook$Row"
  | 1 => .object "StatuteBook$Row"
  | 2 => .int
  | _ => .boolean
abbrev wsX70 : List Cond := u_ws RX7 TX7 4
theorem nmX7 : ∀ a, a < 4 → ∀ b, b < 4 → a ≠ b → (TX7 a).2.1 ≠ (TX7 b).2.1 := by decide +kernel
theorem tyX7_ok : ∀ k, k < 4 → parseFieldDescriptor (TX7 k).2.2.1 = some (tyX7 k) := by decide +kernel
def RX8 : String := "StatuteBook"
def TX8 : u_T := fun k => match k with
  | 0 => ("StatuteBook", "reader", "LStatuteBook$Reader;", true)
  | 1 => ("StatuteBook", "output", "LStatuteBook$Page;", true)
  | 2 => ("StatuteBook", "book", "LStatuteBook$Amendments;", true)
  | 3 => ("StatuteBook", "archive", "LStatuteBook$Archive;", true)
  | 4 => ("StatuteBook", "law", "LStatuteBook$Law;", true)
  | 5 => ("StatuteBook", "otherLaw", "LStatuteBook$Law;", true)
  | _ => ("StatuteBook", "walk", "LStatuteBook$Walk;", true)
def tyX8 : Nat → FieldType := fun k => match k with
  | 0 => .object "StatuteBook$Reader"
  | 1 => .object "StatuteBook$Page"
  | 2 => .object "StatuteBook$Amendments"
  | 3 => .object "StatuteBook$Archive"
  | 4 => .object "StatuteBook$Law"
  | 5 => .object "StatuteBook$Law"
  | _ => .object "StatuteBook$Walk"
abbrev wsX80 : List Cond := u_ws RX8 TX8 7
theorem nmX8 : ∀ a, a < 7 → ∀ b, b < 7 → a ≠ b → (TX8 a).2.1 ≠ (TX8 b).2.1 := by decide +kernel
theorem tyX8_ok : ∀ k, k < 7 → parseFieldDescriptor (TX8 k).2.2.1 = some (tyX8 k) := by decide +kernel
def RX9 : String := "StatuteBookModel"
def TX9 : u_T := fun k => match k with
  | 0 => ("StatuteBookModel", "m", "[I", true)
  | 1 => ("StatuteBookModel", "past", "[I", true)
  | 2 => ("StatuteBookModel", "undos", "I", false)
  | 3 => ("StatuteBookModel", "saved", "[I", true)
  | 4 => ("StatuteBookModel", "isSaved", "[I", true)
  | 5 => ("StatuteBookModel", "off", "[I", true)
  | 6 => ("StatuteBookModel", "force", "[I", true)
  | 7 => ("StatuteBookModel", "code", "[I", true)
  | 8 => ("StatuteBookModel", "size", "[I", true)
  | 9 => ("StatuteBookModel", "words", "[I", true)
  | 10 => ("StatuteBookModel", "latest", "[I", true)
  | 11 => ("StatuteBookModel", "reason", "[I", true)
  | 12 => ("StatuteBookModel", "clauseOf", "[I", true)
  | 13 => ("StatuteBookModel", "sequence", "[I", true)
  | 14 => ("StatuteBookModel", "carried", "I", false)
  | 15 => ("StatuteBookModel", "made", "[I", true)
  | 16 => ("StatuteBookModel", "text", "[I", true)
  | 17 => ("StatuteBookModel", "length", "I", false)
  | 18 => ("StatuteBookModel", "at", "I", false)
  | 19 => ("StatuteBookModel", "fault", "I", false)
  | 20 => ("StatuteBookModel", "read", "[I", true)
  | 21 => ("StatuteBookModel", "reads", "I", false)
  | 22 => ("StatuteBookModel", "output", "[I", true)
  | 23 => ("StatuteBookModel", "kept", "I", false)
  | 24 => ("StatuteBookModel", "printed", "I", false)
  | 25 => ("StatuteBookModel", "thatForce", "[I", true)
  | 26 => ("StatuteBookModel", "thatCode", "[I", true)
  | 27 => ("StatuteBookModel", "thatSize", "[I", true)
  | 28 => ("StatuteBookModel", "thatWords", "[I", true)
  | 29 => ("StatuteBookModel", "far", "[I", true)
  | _ => ("StatuteBookModel", "hash", "J", false)
def tyX9 : Nat → FieldType := fun k => match k with
  | 0 => .array .int
  | 1 => .array .int
  | 2 => .int
  | 3 => .array .int
  | 4 => .array .int
  | 5 => .array .int
  | 6 => .array .int
  | 7 => .array .int
  | 8 => .array .int
  | 9 => .array .int
  | 10 => .array .int
  | 11 => .array .int
  | 12 => .array .int
  | 13 => .array .int
  | 14 => .int
  | 15 => .array .int
  | 16 => .array .int
  | 17 => .int
  | 18 => .int
  | 19 => .int
  | 20 => .array .int
  | 21 => .int
  | 22 => .array .int
  | 23 => .int
  | 24 => .int
  | 25 => .array .int
  | 26 => .array .int
  | 27 => .array .int
  | 28 => .array .int
  | 29 => .array .int
  | _ => .long
abbrev wsX90 : List Cond := u_ws RX9 TX9 31
theorem nmX9 : ∀ a, a < 31 → ∀ b, b < 31 → a ≠ b → (TX9 a).2.1 ≠ (TX9 b).2.1 := by decide +kernel
theorem tyX9_ok : ∀ k, k < 31 → parseFieldDescriptor (TX9 k).2.2.1 = some (tyX9 k) := by decide +kernel
theorem am_ws0 : ∀ w ∈ u_ws RX0 TX0 1, w ∈ am_tbl := by
  intro w hw
  obtain ⟨k, hk, rfl⟩ := List.mem_map.mp hw
  have hk := List.mem_range.mp hk
  have h : ∀ k, k < 1 → ∃ i : Nat, lw_tbl[i]? = some (u_lay RX0 TX0 k) ∧ goodWord (u_lay RX0 TX0 k) = true := by
    intro k hk
    match k, hk with
    | 0, _ => exact ⟨213, by decide +kernel, by decide +kernel⟩
    | k + 1, hk => exact absurd hk (by omega)
  obtain ⟨i, h1, h2⟩ := h k hk
  exact am_mem h1 h2
theorem am_ws1 : ∀ w ∈ u_ws RX1 TX1 4, w ∈ am_tbl := by
  intro w hw
  obtain ⟨k, hk, rfl⟩ := List.mem_map.mp hw
  have hk := List.mem_range.mp hk
  have h : ∀ k, k < 4 → ∃ i : Nat, lw_tbl[i]? = some (u_lay RX1 TX1 k) ∧ goodWord (u_lay RX1 TX1 k) = true := by
    intro k hk
    match k, hk with
    | 0, _ => exact ⟨228, by decide +kernel, by decide +kernel⟩
    | 1, _ => exact ⟨230, by decide +kernel, by decide +kernel⟩
    | 2, _ => exact ⟨232, by decide +kernel, by decide +kernel⟩
    | 3, _ => exact ⟨234, by decide +kernel, by decide +kernel⟩
    | k + 4, hk => exact absurd hk (by omega)
  obtain ⟨i, h1, h2⟩ := h k hk
  exact am_mem h1 h2
theorem am_ws2 : ∀ w ∈ u_ws RX2 TX2 3, w ∈ am_tbl := by
  intro w hw
  obtain ⟨k, hk, rfl⟩ := List.mem_map.mp hw
  have hk := List.mem_range.mp hk
  have h : ∀ k, k < 3 → ∃ i : Nat, lw_tbl[i]? = some (u_lay RX2 TX2 k) ∧ goodWord (u_lay RX2 TX2 k) = true := by
    intro k hk
    match k, hk with
    | 0, _ => exact ⟨179, by decide +kernel, by decide +kernel⟩
    | 1, _ => exact ⟨181, by decide +kernel, by decide +kernel⟩
    | 2, _ => exact ⟨183, by decide +kernel, by decide +kernel⟩
    | k + 3, hk => exact absurd hk (by omega)
  obtain ⟨i, h1, h2⟩ := h k hk
  exact am_mem h1 h2
theorem am_ws3 : ∀ w ∈ u_ws RX3 TX3 11, w ∈ am_tbl := by
  intro w hw
  obtain ⟨k, hk, rfl⟩ := List.mem_map.mp hw
  have hk := List.mem_range.mp hk
  have h : ∀ k, k < 11 → ∃ i : Nat, lw_tbl[i]? = some (u_lay RX3 TX3 k) ∧ goodWord (u_lay RX3 TX3 k) = true := by
    intro k hk
    match k, hk with
    | 0, _ => exact ⟨256, by decide +kernel, by decide +kernel⟩
    | 1, _ => exact ⟨258, by decide +kernel, by decide +kernel⟩
    | 2, _ => exact ⟨260, by decide +kernel, by decide +kernel⟩
    | 3, _ => exact ⟨262, by decide +kernel, by decide +kernel⟩
    | 4, _ => exact ⟨264, by decide +kernel, by decide +kernel⟩
    | 5, _ => exact ⟨266, by decide +kernel, by decide +kernel⟩
    | 6, _ => exact ⟨268, by decide +kernel, by decide +kernel⟩
    | 7, _ => exact ⟨270, by decide +kernel, by decide +kernel⟩
    | 8, _ => exact ⟨272, by decide +kernel, by decide +kernel⟩
    | 9, _ => exact ⟨274, by decide +kernel, by decide +kernel⟩
    | 10, _ => exact ⟨276, by decide +kernel, by decide +kernel⟩
    | k + 11, hk => exact absurd hk (by omega)
  obtain ⟨i, h1, h2⟩ := h k hk
  exact am_mem h1 h2
theorem am_ws4 : ∀ w ∈ u_ws RX4 TX4 2, w ∈ am_tbl := by
  intro w hw
  obtain ⟨k, hk, rfl⟩ := List.mem_map.mp hw
  have hk := List.mem_range.mp hk
  have h : ∀ k, k < 2 → ∃ i : Nat, lw_tbl[i]? = some (u_lay RX4 TX4 k) ∧ goodWord (u_lay RX4 TX4 k) = true := by
    intro k hk
    match k, hk with
    | 0, _ => exact ⟨152, by decide +kernel, by decide +kernel⟩
    | 1, _ => exact ⟨154, by decide +kernel, by decide +kernel⟩
    | k + 2, hk => exact absurd hk (by omega)
  obtain ⟨i, h1, h2⟩ := h k hk
  exact am_mem h1 h2
theorem am_ws5 : ∀ w ∈ u_ws RX5 TX5 4, w ∈ am_tbl := by
  intro w hw
  obtain ⟨k, hk, rfl⟩ := List.mem_map.mp hw
  have hk := List.mem_range.mp hk
  have h : ∀ k, k < 4 → ∃ i : Nat, lw_tbl[i]? = some (u_lay RX5 TX5 k) ∧ goodWord (u_lay RX5 TX5 k) = true := by
    intro k hk
    match k, hk with
    | 0, _ => exact ⟨192, by decide +kernel, by decide +kernel⟩
    | 1, _ => exact ⟨194, by decide +kernel, by decide +kernel⟩
    | 2, _ => exact ⟨196, by decide +kernel, by decide +kernel⟩
    | 3, _ => exact ⟨198, by decide +kernel, by decide +kernel⟩
    | k + 4, hk => exact absurd hk (by omega)
  obtain ⟨i, h1, h2⟩ := h k hk
  exact am_mem h1 h2
theorem am_ws6 : ∀ w ∈ u_ws RX6 TX6 1, w ∈ am_tbl := by
  intro w hw
  obtain ⟨k, hk, rfl⟩ := List.mem_map.mp hw
  have hk := List.mem_range.mp hk
  have h : ∀ k, k < 1 → ∃ i : Nat, lw_tbl[i]? = some (u_lay RX6 TX6 k) ∧ goodWord (u_lay RX6 TX6 k) = true := by
    intro k hk
    match k, hk with
    | 0, _ => exact ⟨172, by decide +kernel, by decide +kernel⟩
    | k + 1, hk => exact absurd hk (by omega)
  obtain ⟨i, h1, h2⟩ := h k hk
  exact am_mem h1 h2
theorem am_ws7 : ∀ w ∈ u_ws RX7 TX7 4, w ∈ am_tbl := by
  intro w hw
  obtain ⟨k, hk, rfl⟩ := List.mem_map.mp hw
  have hk := List.mem_range.mp hk
  have h : ∀ k, k < 4 → ∃ i : Nat, lw_tbl[i]? = some (u_lay RX7 TX7 k) ∧ goodWord (u_lay RX7 TX7 k) = true := by
    intro k hk
    match k, hk with
    | 0, _ => exact ⟨291, by decide +kernel, by decide +kernel⟩
    | 1, _ => exact ⟨293, by decide +kernel, by decide +kernel⟩
    | 2, _ => exact ⟨295, by decide +kernel, by decide +kernel⟩
    | 3, _ => exact ⟨297, by decide +kernel, by decide +kernel⟩
    | k + 4, hk => exact absurd hk (by omega)
  obtain ⟨i, h1, h2⟩ := h k hk
  exact am_mem h1 h2
theorem am_ws8 : ∀ w ∈ u_ws RX8 TX8 7, w ∈ am_tbl := by
  intro w hw
  obtain ⟨k, hk, rfl⟩ := List.mem_map.mp hw
  have hk := List.mem_range.mp hk
  have h : ∀ k, k < 7 → ∃ i : Nat, lw_tbl[i]? = some (u_lay RX8 TX8 k) ∧ goodWord (u_lay RX8 TX8 k) = true := by
    intro k hk
    match k, hk with
    | 0, _ => exact ⟨307, by decide +kernel, by decide +kernel⟩
    | 1, _ => exact ⟨309, by decide +kernel, by decide +kernel⟩
    | 2, _ => exact ⟨311, by decide +kernel, by decide +kernel⟩
    | 3, _ => exact ⟨313, by decide +kernel, by decide +kernel⟩
    | 4, _ => exact ⟨315, by decide +kernel, by decide +kernel⟩
    | 5, _ => exact ⟨317, by decide +kernel, by decide +kernel⟩
    | 6, _ => exact ⟨319, by decide +kernel, by decide +kernel⟩
    | k + 7, hk => exact absurd hk (by omega)
  obtain ⟨i, h1, h2⟩ := h k hk
  exact am_mem h1 h2
theorem am_ws9 : ∀ w ∈ u_ws RX9 TX9 31, w ∈ am_tbl := by
  intro w hw
  obtain ⟨k, hk, rfl⟩ := List.mem_map.mp hw
  have hk := List.mem_range.mp hk
  have h : ∀ k, k < 31 → ∃ i : Nat, lw_tbl[i]? = some (u_lay RX9 TX9 k) ∧ goodWord (u_lay RX9 TX9 k) = true := by
    intro k hk
    match k, hk with
    | 0, _ => exact ⟨1055, by decide +kernel, by decide +kernel⟩
    | 1, _ => exact ⟨1057, by decide +kernel, by decide +kernel⟩
    | 2, _ => exact ⟨1059, by decide +kernel, by decide +kernel⟩
    | 3, _ => exact ⟨1061, by decide +kernel, by decide +kernel⟩
    | 4, _ => exact ⟨1063, by decide +kernel, by decide +kernel⟩
    | 5, _ => exact ⟨1065, by decide +kernel, by decide +kernel⟩
    | 6, _ => exact ⟨1067, by decide +kernel, by decide +kernel⟩
    | 7, _ => exact ⟨1069, by decide +kernel, by decide +kernel⟩
    | 8, _ => exact ⟨1071, by decide +kernel, by decide +kernel⟩
    | 9, _ => exact ⟨1073, by decide +kernel, by decide +kernel⟩
    | 10, _ => exact ⟨1075, by decide +kernel, by decide +kernel⟩
    | 11, _ => exact ⟨1077, by decide +kernel, by decide +kernel⟩
    | 12, _ => exact ⟨1079, by decide +kernel, by decide +kernel⟩
    | 13, _ => exact ⟨1081, by decide +kernel, by decide +kernel⟩
    | 14, _ => exact ⟨1083, by decide +kernel, by decide +kernel⟩
    | 15, _ => exact ⟨1085, by decide +kernel, by decide +kernel⟩
    | 16, _ => exact ⟨1087, by decide +kernel, by decide +kernel⟩
    | 17, _ => exact ⟨1089, by decide +kernel, by decide +kernel⟩
    | 18, _ => exact ⟨1091, by decide +kernel, by decide +kernel⟩
    | 19, _ => exact ⟨1093, by decide +kernel, by decide +kernel⟩
    | 20, _ => exact ⟨1095, by decide +kernel, by decide +kernel⟩
    | 21, _ => exact ⟨1097, by decide +kernel, by decide +kernel⟩
    | 22, _ => exact ⟨1099, by decide +kernel, by decide +kernel⟩
    | 23, _ => exact ⟨1101, by decide +kernel, by decide +kernel⟩
    | 24, _ => exact ⟨1103, by decide +kernel, by decide +kernel⟩
    | 25, _ => exact ⟨1105, by decide +kernel, by decide +kernel⟩
    | 26, _ => exact ⟨1107, by decide +kernel, by decide +kernel⟩
    | 27, _ => exact ⟨1109, by decide +kernel, by decide +kernel⟩
    | 28, _ => exact ⟨1111, by decide +kernel, by decide +kernel⟩
    | 29, _ => exact ⟨1113, by decide +kernel, by decide +kernel⟩
    | 30, _ => exact ⟨1115, by decide +kernel, by decide +kernel⟩
    | k + 31, hk => exact absurd hk (by omega)
  obtain ⟨i, h1, h2⟩ := h k hk
  exact am_mem h1 h2
end
section
/-! the abstract machine's tables: code of every method, where fields, methods and constants stand -/
def am_as {β : Type} : List (Nat × β) → Nat → Option β
  | [], _ => none
  | q :: l, k => bif Nat.beq q.1 k then some q.2 else am_as l k
theorem am_as_mem {β : Type} {l : List (Nat × β)} {k : Nat} {v : β} (h : am_as l k = some v) : (k, v) ∈ l := by
  induction l with
  | nil => cases h
  | cons q l ih =>
    unfold am_as at h
    cases hb : Nat.beq q.1 k with
    | true =>
      rw [hb] at h
      simp only [cond_true, Option.some.injEq] at h
      have := Nat.eq_of_beq_eq_true hb
      subst this; subst h
      exact List.mem_cons_self
    | false =>
      rw [hb] at h
      exact List.mem_cons_of_mem _ (ih h)
/-- name, bytes, locals, answer, class, frames and locals of the room, how many arguments, code (place, instruction, length) -/
abbrev am_T : Type := MethodName × ByteArray × Nat × Option FieldType × Nat × (Nat × Nat × Nat) × List (Nat × Instr × Nat)
abbrev am_nm (t : am_T) : MethodName := t.1
abbrev am_by (t : am_T) : ByteArray := t.2.1
abbrev am_mL (t : am_T) : Nat := t.2.2.1
abbrev am_rt (t : am_T) : Option FieldType := t.2.2.2.1
abbrev am_ow (t : am_T) : Nat := t.2.2.2.2.1
abbrev am_fr (t : am_T) : Nat := t.2.2.2.2.2.1.1
abbrev am_lo (t : am_T) : Nat := t.2.2.2.2.2.1.2.1
abbrev am_ar (t : am_T) : Nat := t.2.2.2.2.2.1.2.2
abbrev am_cd (t : am_T) : List (Nat × Instr × Nat) := t.2.2.2.2.2.2
def R_law : String := "StatuteBookLaw"
def am_cn : Nat → String := fun k => match k with
  | 0 => RX0
  | 1 => RX1
  | 2 => RX2
  | 3 => RX3
  | 4 => RX4
  | 5 => RX5
  | 6 => RX6
  | 7 => RX7
  | 8 => RX8
  | 9 => RX9
  | 10 => R_law
  | 11 => "java/lang/Math"
  | 12 => "java/lang/Integer"
  | 13 => "java/util/Arrays"
  | 14 => "java/lang/String"
  | 15 => "java/lang/StringLatin1"
  | _ => "jdk/internal/util/Preconditions"
def t_SB_type : am_T := (⟨RX8, "type", "(I)I"⟩, prog_1_method_2_code, 2, (some .int), 8, (2, 41, 2), [(0, .iload_n 1, 1), (1, .bipush 127, 2), (3, .invokestatic 56, 3), (6, .ifCond .ne 6, 3), (9, .bipush (-2), 2), (11, .ireturn, 1), (12, .aload_n 0, 1), (13, .getfield 12, 3), (16, .getfield 60, 3), (19, .invokevirtual 63, 3), (22, .bipush 120, 2), (24, .if_icmp .lt 6, 3), (27, .bipush (-4), 2), (29, .ireturn, 1), (30, .aload_n 0, 1), (31, .getfield 12, 3), (34, .getfield 60, 3), (37, .iload_n 1, 1), (38, .invokevirtual 67, 3), (41, .aload_n 0, 1), (42, .getfield 12, 3), (45, .getfield 60, 3), (48, .invokevirtual 63, 3), (51, .ireturn, 1)])
def t_SB_within : am_T := (⟨RX8, "within", "(II)Z"⟩, prog_1_method_56_code, 2, (some .boolean), 8, (0, 0, 2), [(0, .iload_n 0, 1), (1, .ifCond .lt 12, 3), (4, .iload_n 0, 1), (5, .iload_n 1, 1), (6, .if_icmp .gt 7, 3), (9, .iconst 1, 1), (10, .goto 4, 3), (13, .iconst 0, 1), (14, .ireturn, 1)])
def t_Pag_kept : am_T := (⟨RX4, "kept", "()I"⟩, prog_6_method_4_code, 1, (some .int), 4, (1, 21, 1), [(0, .aload_n 0, 1), (1, .getfield 21, 3), (4, .aload_n 0, 1), (5, .getfield 15, 3), (8, .arraylength, 1), (9, .invokestatic 25, 3), (12, .ireturn, 1)])
def t_Pag_append : am_T := (⟨RX4, "append", "(I)V"⟩, prog_6_method_6_code, 2, none, 4, (0, 0, 2), [(0, .aload_n 0, 1), (1, .getfield 21, 3), (4, .ifCond .lt 25, 3), (7, .aload_n 0, 1), (8, .getfield 21, 3), (11, .aload_n 0, 1), (12, .getfield 15, 3), (15, .arraylength, 1), (16, .if_icmp .ge 13, 3), (19, .aload_n 0, 1), (20, .getfield 15, 3), (23, .aload_n 0, 1), (24, .getfield 21, 3), (27, .iload_n 1, 1), (28, .iastore, 1), (29, .aload_n 0, 1), (30, .dup, 1), (31, .getfield 21, 3), (34, .iconst 1, 1), (35, .iadd, 1), (36, .putfield 21, 3), (39, .return_, 1)])
def t_SB_clear : am_T := (⟨RX8, "clear", "()I"⟩, prog_1_method_3_code, 2, (some .int), 8, (2, 41, 1), [(0, .aload_n 0, 1), (1, .getfield 12, 3), (4, .getfield 60, 3), (7, .invokevirtual 63, 3), (10, .istore_n 1, 1), (11, .aload_n 0, 1), (12, .getfield 12, 3), (15, .getfield 60, 3), (18, .invokevirtual 70, 3), (21, .iload_n 1, 1), (22, .ireturn, 1)])
def t_Pag_makeEmpty : am_T := (⟨RX4, "makeEmpty", "()V"⟩, prog_6_method_2_code, 1, none, 4, (0, 0, 1), [(0, .aload_n 0, 1), (1, .iconst 0, 1), (2, .putfield 21, 3), (5, .return_, 1)])
def t_SB_enact : am_T := (⟨RX8, "enact", "(I)I"⟩, prog_1_method_4_code, 4, (some .int), 8, (9, 191, 2), [(0, .iload_n 1, 1), (1, .sipush 9999, 3), (4, .invokestatic 56, 3), (7, .ifCond .ne 6, 3), (10, .bipush (-2), 2), (12, .ireturn, 1), (13, .aload_n 0, 1), (14, .getfield 12, 3), (17, .invokevirtual 73, 3), (20, .istore_n 2, 1), (21, .iload_n 2, 1), (22, .iconst (-1), 1), (23, .if_icmp .eq 9, 3), (26, .sipush (-2000), 3), (29, .iload_n 2, 1), (30, .isub, 1), (31, .ireturn, 1), (32, .aload_n 0, 1), (33, .iload_n 1, 1), (34, .invokevirtual 76, 3), (37, .istore_n 3, 1), (38, .iload_n 3, 1), (39, .bipush (-4), 2), (41, .if_icmp .eq 13, 3), (44, .aload_n 0, 1), (45, .getfield 12, 3), (48, .getfield 60, 3), (51, .invokevirtual 70, 3), (54, .iload_n 3, 1), (55, .ireturn, 1)])
def t_Rea_readAmendment : am_T := (⟨RX5, "readAmendment", "()I"⟩, prog_7_method_2_code, 3, (some .int), 5, (8, 169, 1), [(0, .aload_n 0, 1), (1, .getfield 23, 3), (4, .invokevirtual 27, 3), (7, .aload_n 0, 1), (8, .iconst 0, 1), (9, .putfield 30, 3), (12, .aload_n 0, 1), (13, .iconst (-1), 1), (14, .putfield 34, 3), (17, .iconst 1, 1), (18, .istore_n 1, 1), (19, .iconst 0, 1), (20, .istore_n 2, 1), (21, .iload_n 1, 1), (22, .ifCond .eq 40, 3), (25, .iload_n 2, 1), (26, .bipush 40, 2), (28, .if_icmp .gt 34, 3), (31, .aload_n 0, 1), (32, .invokevirtual 37, 3), (35, .aload_n 0, 1), (36, .getfield 34, 3), (39, .iconst (-1), 1), (40, .if_icmp .ne 14, 3), (43, .aload_n 0, 1), (44, .invokevirtual 40, 3), (47, .ifCond .eq 7, 3), (50, .iconst 1, 1), (51, .goto 4, 3), (54, .iconst 0, 1), (55, .istore_n 1, 1), (56, .iinc 2 1, 3), (59, .goto (-38), 3), (62, .aload_n 0, 1), (63, .getfield 34, 3), (66, .ireturn, 1)])
def t_Dra_makeEmpty : am_T := (⟨RX2, "makeEmpty", "()V"⟩, prog_4_method_2_code, 1, none, 2, (0, 0, 1), [(0, .aload_n 0, 1), (1, .iconst 0, 1), (2, .putfield 20, 3), (5, .aload_n 0, 1), (6, .iconst 0, 1), (7, .putfield 24, 3), (10, .return_, 1)])
def t_Rea_readOperation : am_T := (⟨RX5, "readOperation", "()V"⟩, prog_7_method_4_code, 2, none, 5, (7, 148, 1), [(0, .aload_n 0, 1), (1, .invokevirtual 44, 3), (4, .aload_n 0, 1), (5, .getfield 23, 3), (8, .invokevirtual 47, 3), (11, .bipush 40, 2), (13, .if_icmp .ge 10, 3), (16, .aload_n 0, 1), (17, .invokevirtual 51, 3), (20, .goto 4, 3), (23, .iconst (-1), 1), (24, .istore_n 1, 1), (25, .iload_n 1, 1), (26, .iconst (-1), 1), (27, .if_icmp .ne 12, 3), (30, .aload_n 0, 1), (31, .aload_n 0, 1), (32, .getfield 30, 3), (35, .invokevirtual 54, 3), (38, .return_, 1), (39, .aload_n 0, 1), (40, .invokevirtual 44, 3), (43, .aload_n 0, 1), (44, .getfield 23, 3), (47, .iload_n 1, 1), (48, .aload_n 0, 1), (49, .invokevirtual 57, 3), (52, .invokevirtual 60, 3), (55, .iload_n 1, 1), (56, .ifCond .eq 8, 3), (59, .iload_n 1, 1), (60, .iconst 1, 1), (61, .if_icmp .ne 10, 3), (64, .aload_n 0, 1), (65, .invokevirtual 64, 3), (68, .goto 74, 3), (71, .iload_n 1, 1), (72, .iconst 3, 1), (73, .if_icmp .ne 28, 3), (76, .aload_n 0, 1), (77, .ldc 67, 2), (79, .invokevirtual 69, 3), (82, .aload_n 0, 1), (83, .invokevirtual 44, 3), (86, .aload_n 0, 1), (87, .getfield 23, 3), (90, .iconst 2, 1), (91, .aload_n 0, 1), (92, .invokevirtual 57, 3), (95, .invokevirtual 73, 3), (98, .goto 44, 3), (101, .iload_n 1, 1), (102, .iconst 4, 1), (103, .if_icmp .ne 39, 3), (106, .aload_n 0, 1), (107, .ldc 76, 2), (109, .invokevirtual 69, 3), (112, .aload_n 0, 1), (113, .getfield 23, 3), (116, .iconst 2, 1), (117, .aload_n 0, 1), (118, .invokevirtual 78, 3), (121, .invokevirtual 73, 3), (124, .aload_n 0, 1), (125, .ldc 81, 2), (127, .invokevirtual 69, 3), (130, .aload_n 0, 1), (131, .getfield 23, 3), (134, .iconst 3, 1), (135, .aload_n 0, 1), (136, .invokevirtual 78, 3), (139, .invokevirtual 73, 3), (142, .iload_n 1, 1), (143, .ifCond .eq 12, 3), (146, .iload_n 1, 1), (147, .iconst 3, 1), (148, .if_icmp .eq 7, 3), (151, .aload_n 0, 1), (152, .invokevirtual 82, 3), (155, .return_, 1)])
def t_Rea_skipBlanks : am_T := (⟨RX5, "skipBlanks", "()V"⟩, prog_7_method_15_code, 1, none, 5, (2, 41, 1), [(0, .aload_n 0, 1), (1, .getfield 30, 3), (4, .aload_n 0, 1), (5, .getfield 14, 3), (8, .invokevirtual 118, 3), (11, .if_icmp .ge 32, 3), (14, .aload_n 0, 1), (15, .getfield 14, 3), (18, .aload_n 0, 1), (19, .getfield 30, 3), (22, .invokevirtual 102, 3), (25, .bipush 32, 2), (27, .if_icmp .ne 16, 3), (30, .aload_n 0, 1), (31, .dup, 1), (32, .getfield 30, 3), (35, .iconst 1, 1), (36, .iadd, 1), (37, .putfield 30, 3), (40, .goto (-40), 3), (43, .return_, 1)])
def t_Pag_byteAt : am_T := (⟨RX4, "byteAt", "(I)I"⟩, prog_6_method_5_code, 2, (some .int), 4, (0, 0, 2), [(0, .iload_n 1, 1), (1, .ifCond .lt 29, 3), (4, .iload_n 1, 1), (5, .aload_n 0, 1), (6, .getfield 21, 3), (9, .if_icmp .ge 21, 3), (12, .iload_n 1, 1), (13, .aload_n 0, 1), (14, .getfield 15, 3), (17, .arraylength, 1), (18, .if_icmp .ge 12, 3), (21, .aload_n 0, 1), (22, .getfield 15, 3), (25, .iload_n 1, 1), (26, .iaload, 1), (27, .goto 4, 3), (30, .iconst (-1), 1), (31, .ireturn, 1)])
def t_Dra_size : am_T := (⟨RX2, "size", "()I"⟩, prog_4_method_3_code, 1, (some .int), 2, (0, 0, 1), [(0, .aload_n 0, 1), (1, .getfield 20, 3), (4, .ireturn, 1)])
def t_Rea_readKind : am_T := (⟨RX5, "readKind", "()I"⟩, prog_7_method_5_code, 1, (some .int), 5, (5, 107, 1), [(0, .aload_n 0, 1), (1, .ldc 85, 2), (3, .invokevirtual 87, 3), (6, .ifCond .eq 5, 3), (9, .iconst 0, 1), (10, .ireturn, 1), (11, .aload_n 0, 1), (12, .ldc 91, 2), (14, .invokevirtual 87, 3), (17, .ifCond .eq 5, 3), (20, .iconst 1, 1), (21, .ireturn, 1), (22, .aload_n 0, 1), (23, .ldc 93, 2), (25, .invokevirtual 87, 3), (28, .ifCond .eq 5, 3), (31, .iconst 2, 1), (32, .ireturn, 1), (33, .aload_n 0, 1), (34, .ldc 95, 2), (36, .invokevirtual 87, 3), (39, .ifCond .eq 5, 3), (42, .iconst 3, 1), (43, .ireturn, 1), (44, .aload_n 0, 1), (45, .ldc 97, 2), (47, .invokevirtual 87, 3), (50, .ifCond .eq 7, 3), (53, .iconst 4, 1), (54, .goto 4, 3), (57, .iconst (-1), 1), (58, .ireturn, 1)])
def t_Rea_passes : am_T := (⟨RX5, "passes", "(Ljava/lang/String;)Z"⟩, prog_7_method_14_code, 3, (some .boolean), 5, (4, 85, 2), [(0, .iconst 0, 1), (1, .istore_n 2, 1), (2, .iload_n 2, 1), (3, .aload_n 1, 1), (4, .invokevirtual 121, 3), (7, .if_icmp .ge 32, 3), (10, .aload_n 0, 1), (11, .getfield 14, 3), (14, .aload_n 0, 1), (15, .getfield 30, 3), (18, .iload_n 2, 1), (19, .iadd, 1), (20, .invokevirtual 102, 3), (23, .aload_n 1, 1), (24, .iload_n 2, 1), (25, .invokevirtual 126, 3), (28, .if_icmp .eq 5, 3), (31, .iconst 0, 1), (32, .ireturn, 1), (33, .iinc 2 1, 3), (36, .goto (-34), 3), (39, .aload_n 0, 1), (40, .getfield 14, 3), (43, .aload_n 0, 1), (44, .getfield 30, 3), (47, .aload_n 1, 1), (48, .invokevirtual 121, 3), (51, .iadd, 1), (52, .invokevirtual 102, 3), (55, .bipush 97, 2), (57, .bipush 122, 2), (59, .invokestatic 112, 3), (62, .ifCond .eq 5, 3), (65, .iconst 0, 1), (66, .ireturn, 1), (67, .aload_n 0, 1), (68, .dup, 1), (69, .getfield 30, 3), (72, .aload_n 1, 1), (73, .invokevirtual 121, 3), (76, .iadd, 1), (77, .putfield 30, 3), (80, .iconst 1, 1), (81, .ireturn, 1)])
def t_Str_length : am_T := (⟨"java/lang/String", "length", "()I"⟩, prog_14_method_54_code, 1, (some .int), 14, (1, 20, 1), [(0, .aload_n 0, 1), (1, .getfield 9, 3), (4, .arraylength, 1), (5, .aload_n 0, 1), (6, .invokevirtual 335, 3), (9, .ishr, 1), (10, .ireturn, 1)])
def t_Str_coder : am_T := (⟨"java/lang/String", "coder", "()B"⟩, prog_14_method_152_code, 1, (some .byte), 14, (0, 0, 1), [(0, .getstatic 38, 3), (3, .ifCond .eq 10, 3), (6, .aload_n 0, 1), (7, .getfield 15, 3), (10, .goto 4, 3), (13, .iconst 1, 1), (14, .ireturn, 1)])
def t_Str_charAt : am_T := (⟨"java/lang/String", "charAt", "(I)C"⟩, prog_14_method_56_code, 2, (some .char), 14, (3, 64, 2), [(0, .aload_n 0, 1), (1, .invokevirtual 492, 3), (4, .ifCond .eq 12, 3), (7, .aload_n 0, 1), (8, .getfield 9, 3), (11, .iload_n 1, 1), (12, .invokestatic 495, 3), (15, .ireturn, 1), (16, .aload_n 0, 1), (17, .getfield 9, 3), (20, .iload_n 1, 1), (21, .invokestatic 498, 3), (24, .ireturn, 1)])
def t_Str_isLatin1 : am_T := (⟨"java/lang/String", "isLatin1", "()Z"⟩, prog_14_method_154_code, 1, (some .boolean), 14, (0, 0, 1), [(0, .getstatic 38, 3), (3, .ifCond .eq 14, 3), (6, .aload_n 0, 1), (7, .getfield 15, 3), (10, .ifCond .ne 7, 3), (13, .iconst 1, 1), (14, .goto 4, 3), (17, .iconst 0, 1), (18, .ireturn, 1)])
def t_SL1_charAt : am_T := (⟨"java/lang/StringLatin1", "charAt", "([BI)C"⟩, prog_15_method_2_code, 2, (some .char), 15, (2, 43, 2), [(0, .iload_n 1, 1), (1, .aload_n 0, 1), (2, .arraylength, 1), (3, .invokestatic 9, 3), (6, .aload_n 0, 1), (7, .iload_n 1, 1), (8, .baload, 1), (9, .sipush 255, 3), (12, .iand, 1), (13, .i2c, 1), (14, .ireturn, 1)])
def t_Str_checkIndex : am_T := (⟨"java/lang/String", "checkIndex", "(II)V"⟩, prog_14_method_155_code, 2, none, 14, (1, 22, 2), [(0, .iload_n 0, 1), (1, .iload_n 1, 1), (2, .getstatic 1053, 3), (5, .invokestatic 1059, 3), (8, .pop, 1), (9, .return_, 1)])
def t_Pre_checkIndex : am_T := (⟨"jdk/internal/util/Preconditions", "checkIndex", "(IILjava/util/function/BiFunction;)I"⟩, prog_19_method_11_code, 3, (some .int), 16, (0, 0, 3), [(0, .iload_n 0, 1), (1, .ifCond .lt 8, 3), (4, .iload_n 0, 1), (5, .iload_n 1, 1), (6, .if_icmp .lt 10, 3), (9, .aload_n 2, 1), (10, .iload_n 0, 1), (11, .iload_n 1, 1), (12, .invokestatic 95, 3), (15, .athrow, 1), (16, .iload_n 0, 1), (17, .ireturn, 1)])
def t_Rea_isBetween : am_T := (⟨RX5, "isBetween", "(ICC)Z"⟩, prog_7_method_16_code, 3, (some .boolean), 5, (0, 0, 3), [(0, .iload_n 0, 1), (1, .iload_n 1, 1), (2, .if_icmp .lt 12, 3), (5, .iload_n 0, 1), (6, .iload_n 2, 1), (7, .if_icmp .gt 7, 3), (10, .iconst 1, 1), (11, .goto 4, 3), (14, .iconst 0, 1), (15, .ireturn, 1)])
def t_Rea_fail : am_T := (⟨RX5, "fail", "(I)V"⟩, prog_7_method_3_code, 2, none, 5, (0, 0, 2), [(0, .aload_n 0, 1), (1, .getfield 34, 3), (4, .iconst (-1), 1), (5, .if_icmp .ne 8, 3), (8, .aload_n 0, 1), (9, .iload_n 1, 1), (10, .putfield 34, 3), (13, .return_, 1)])
def t_Rea_readNumber : am_T := (⟨RX5, "readNumber", "()I"⟩, prog_7_method_11_code, 2, (some .int), 5, (2, 45, 1), [(0, .aload_n 0, 1), (1, .iconst 1, 1), (2, .invokevirtual 109, 3), (5, .sipush 729, 3), (8, .imul, 1), (9, .istore_n 1, 1), (10, .aload_n 0, 1), (11, .getfield 14, 3), (14, .aload_n 0, 1), (15, .getfield 30, 3), (18, .invokevirtual 102, 3), (21, .bipush 65, 2), (23, .bipush 90, 2), (25, .invokestatic 112, 3), (28, .ifCond .eq 85, 3), (31, .iload_n 1, 1), (32, .aload_n 0, 1), (33, .getfield 14, 3), (36, .aload_n 0, 1), (37, .getfield 30, 3), (40, .invokevirtual 102, 3), (43, .bipush 65, 2), (45, .isub, 1), (46, .iconst 1, 1), (47, .iadd, 1), (48, .bipush 27, 2), (50, .imul, 1), (51, .iadd, 1), (52, .istore_n 1, 1), (53, .aload_n 0, 1), (54, .dup, 1), (55, .getfield 30, 3), (58, .iconst 1, 1), (59, .iadd, 1), (60, .putfield 30, 3), (63, .aload_n 0, 1), (64, .getfield 14, 3), (67, .aload_n 0, 1), (68, .getfield 30, 3), (71, .invokevirtual 102, 3), (74, .bipush 65, 2), (76, .bipush 90, 2), (78, .invokestatic 112, 3), (81, .ifCond .eq 32, 3), (84, .iload_n 1, 1), (85, .aload_n 0, 1), (86, .getfield 14, 3), (89, .aload_n 0, 1), (90, .getfield 30, 3), (93, .invokevirtual 102, 3), (96, .bipush 65, 2), (98, .isub, 1), (99, .iconst 1, 1), (100, .iadd, 1), (101, .iadd, 1), (102, .istore_n 1, 1), (103, .aload_n 0, 1), (104, .dup, 1), (105, .getfield 30, 3), (108, .iconst 1, 1), (109, .iadd, 1), (110, .putfield 30, 3), (113, .iload_n 1, 1), (114, .ireturn, 1)])
def t_Rea_readDigits : am_T := (⟨RX5, "readDigits", "(I)I"⟩, prog_7_method_12_code, 4, (some .int), 5, (1, 22, 2), [(0, .aload_n 0, 1), (1, .getfield 30, 3), (4, .istore_n 2, 1), (5, .iconst 0, 1), (6, .istore_n 3, 1), (7, .aload_n 0, 1), (8, .getfield 30, 3), (11, .iload_n 2, 1), (12, .iconst 3, 1), (13, .iadd, 1), (14, .if_icmp .ge 57, 3), (17, .aload_n 0, 1), (18, .getfield 14, 3), (21, .aload_n 0, 1), (22, .getfield 30, 3), (25, .invokevirtual 102, 3), (28, .bipush 48, 2), (30, .bipush 57, 2), (32, .invokestatic 112, 3), (35, .ifCond .eq 36, 3), (38, .iload_n 3, 1), (39, .bipush 10, 2), (41, .imul, 1), (42, .aload_n 0, 1), (43, .getfield 14, 3), (46, .aload_n 0, 1), (47, .getfield 30, 3), (50, .invokevirtual 102, 3), (53, .iadd, 1), (54, .bipush 48, 2), (56, .isub, 1), (57, .istore_n 3, 1), (58, .aload_n 0, 1), (59, .dup, 1), (60, .getfield 30, 3), (63, .iconst 1, 1), (64, .iadd, 1), (65, .putfield 30, 3), (68, .goto (-61), 3), (71, .iload_n 3, 1), (72, .iload_n 1, 1), (73, .if_icmp .ge 8, 3), (76, .aload_n 0, 1), (77, .iload_n 2, 1), (78, .invokevirtual 54, 3), (81, .aload_n 0, 1), (82, .getfield 30, 3), (85, .iload_n 2, 1), (86, .if_icmp .eq 24, 3), (89, .aload_n 0, 1), (90, .getfield 14, 3), (93, .aload_n 0, 1), (94, .getfield 30, 3), (97, .invokevirtual 102, 3), (100, .bipush 48, 2), (102, .bipush 57, 2), (104, .invokestatic 112, 3), (107, .ifCond .eq 11, 3), (110, .aload_n 0, 1), (111, .aload_n 0, 1), (112, .getfield 30, 3), (115, .invokevirtual 54, 3), (118, .iload_n 3, 1), (119, .ireturn, 1)])
def t_Dra_begin : am_T := (⟨RX2, "begin", "(II)V"⟩, prog_4_method_5_code, 3, none, 2, (2, 44, 3), [(0, .aload_n 0, 1), (1, .dup, 1), (2, .getfield 20, 3), (5, .iconst 1, 1), (6, .iadd, 1), (7, .putfield 20, 3), (10, .aload_n 0, 1), (11, .iconst 0, 1), (12, .iload_n 1, 1), (13, .invokevirtual 27, 3), (16, .aload_n 0, 1), (17, .iconst 1, 1), (18, .iload_n 2, 1), (19, .invokevirtual 27, 3), (22, .aload_n 0, 1), (23, .iconst 2, 1), (24, .iconst (-1), 1), (25, .invokevirtual 27, 3), (28, .aload_n 0, 1), (29, .iconst 3, 1), (30, .iconst (-1), 1), (31, .invokevirtual 27, 3), (34, .aload_n 0, 1), (35, .iconst 4, 1), (36, .iconst 0, 1), (37, .invokevirtual 27, 3), (40, .aload_n 0, 1), (41, .iconst 5, 1), (42, .iconst 0, 1), (43, .invokevirtual 27, 3), (46, .aload_n 0, 1), (47, .bipush 6, 2), (49, .iconst (-1), 1), (50, .invokevirtual 27, 3), (53, .iload_n 1, 1), (54, .ifCond .ne 13, 3), (57, .aload_n 0, 1), (58, .dup, 1), (59, .getfield 24, 3), (62, .iconst 1, 1), (63, .iadd, 1), (64, .putfield 24, 3), (67, .return_, 1)])
def t_Dra_put : am_T := (⟨RX2, "put", "(II)V"⟩, prog_4_method_6_code, 3, none, 2, (1, 22, 3), [(0, .aload_n 0, 1), (1, .getfield 14, 3), (4, .aload_n 0, 1), (5, .getfield 20, 3), (8, .iconst 1, 1), (9, .isub, 1), (10, .bipush 13, 2), (12, .imul, 1), (13, .iload_n 1, 1), (14, .iadd, 1), (15, .iload_n 2, 1), (16, .invokevirtual 31, 3), (19, .return_, 1)])
def t_Row_set : am_T := (⟨RX6, "set", "(II)V"⟩, prog_8_method_3_code, 3, none, 6, (0, 0, 3), [(0, .iload_n 1, 1), (1, .ifCond .lt 19, 3), (4, .iload_n 1, 1), (5, .aload_n 0, 1), (6, .getfield 13, 3), (9, .arraylength, 1), (10, .if_icmp .ge 10, 3), (13, .aload_n 0, 1), (14, .getfield 13, 3), (17, .iload_n 1, 1), (18, .iload_n 2, 1), (19, .iastore, 1), (20, .return_, 1)])
def t_Rea_readWords : am_T := (⟨RX5, "readWords", "()V"⟩, prog_7_method_6_code, 2, none, 5, (4, 81, 1), [(0, .iconst 0, 1), (1, .istore_n 1, 1), (2, .iload_n 1, 1), (3, .bipush 6, 2), (5, .if_icmp .ge 80, 3), (8, .aload_n 0, 1), (9, .getfield 34, 3), (12, .iconst (-1), 1), (13, .if_icmp .ne 72, 3), (16, .aload_n 0, 1), (17, .invokevirtual 99, 3), (20, .ifCond .eq 65, 3), (23, .aload_n 0, 1), (24, .getfield 14, 3), (27, .aload_n 0, 1), (28, .getfield 30, 3), (31, .invokevirtual 102, 3), (34, .bipush 64, 2), (36, .if_icmp .ne 31, 3), (39, .aload_n 0, 1), (40, .dup, 1), (41, .getfield 30, 3), (44, .iconst 1, 1), (45, .iadd, 1), (46, .putfield 30, 3), (49, .aload_n 0, 1), (50, .getfield 23, 3), (53, .sipush 1000, 3), (56, .aload_n 0, 1), (57, .invokevirtual 57, 3), (60, .iadd, 1), (61, .invokevirtual 106, 3), (64, .goto 15, 3), (67, .aload_n 0, 1), (68, .getfield 23, 3), (71, .aload_n 0, 1), (72, .iconst 0, 1), (73, .invokevirtual 109, 3), (76, .invokevirtual 106, 3), (79, .iinc 1 1, 3), (82, .goto (-80), 3), (85, .return_, 1)])
def t_Rea_isAtWord : am_T := (⟨RX5, "isAtWord", "()Z"⟩, prog_7_method_7_code, 1, (some .boolean), 5, (3, 61, 1), [(0, .aload_n 0, 1), (1, .invokevirtual 44, 3), (4, .aload_n 0, 1), (5, .getfield 14, 3), (8, .aload_n 0, 1), (9, .getfield 30, 3), (12, .invokevirtual 102, 3), (15, .bipush 64, 2), (17, .if_icmp .eq 24, 3), (20, .aload_n 0, 1), (21, .getfield 14, 3), (24, .aload_n 0, 1), (25, .getfield 30, 3), (28, .invokevirtual 102, 3), (31, .bipush 48, 2), (33, .bipush 57, 2), (35, .invokestatic 112, 3), (38, .ifCond .eq 7, 3), (41, .iconst 1, 1), (42, .goto 4, 3), (45, .iconst 0, 1), (46, .ireturn, 1)])
def t_Dra_addWord : am_T := (⟨RX2, "addWord", "(I)V"⟩, prog_4_method_7_code, 3, none, 2, (2, 44, 2), [(0, .aload_n 0, 1), (1, .getfield 14, 3), (4, .aload_n 0, 1), (5, .getfield 20, 3), (8, .iconst 1, 1), (9, .isub, 1), (10, .bipush 13, 2), (12, .imul, 1), (13, .iconst 5, 1), (14, .iadd, 1), (15, .invokevirtual 34, 3), (18, .istore_n 2, 1), (19, .aload_n 0, 1), (20, .bipush 7, 2), (22, .iload_n 2, 1), (23, .iadd, 1), (24, .iload_n 1, 1), (25, .invokevirtual 27, 3), (28, .aload_n 0, 1), (29, .iconst 5, 1), (30, .iload_n 2, 1), (31, .iconst 1, 1), (32, .iadd, 1), (33, .invokevirtual 27, 3), (36, .return_, 1)])
def t_Row_get : am_T := (⟨RX6, "get", "(I)I"⟩, prog_8_method_2_code, 2, (some .int), 6, (0, 0, 2), [(0, .iload_n 1, 1), (1, .ifCond .lt 21, 3), (4, .iload_n 1, 1), (5, .aload_n 0, 1), (6, .getfield 13, 3), (9, .arraylength, 1), (10, .if_icmp .ge 12, 3), (13, .aload_n 0, 1), (14, .getfield 13, 3), (17, .iload_n 1, 1), (18, .iaload, 1), (19, .goto 4, 3), (22, .iconst 0, 1), (23, .ireturn, 1)])
def t_Rea_expect : am_T := (⟨RX5, "expect", "(Ljava/lang/String;)V"⟩, prog_7_method_13_code, 2, none, 5, (5, 107, 2), [(0, .aload_n 0, 1), (1, .invokevirtual 44, 3), (4, .aload_n 0, 1), (5, .aload_n 1, 1), (6, .invokevirtual 87, 3), (9, .ifCond .ne 11, 3), (12, .aload_n 0, 1), (13, .aload_n 0, 1), (14, .getfield 30, 3), (17, .invokevirtual 54, 3), (20, .return_, 1)])
def t_Rea_readPlain : am_T := (⟨RX5, "readPlain", "()I"⟩, prog_7_method_10_code, 1, (some .int), 5, (3, 61, 1), [(0, .aload_n 0, 1), (1, .invokevirtual 44, 3), (4, .aload_n 0, 1), (5, .iconst 0, 1), (6, .invokevirtual 109, 3), (9, .ireturn, 1)])
def t_Rea_readSaving : am_T := (⟨RX5, "readSaving", "()V"⟩, prog_7_method_8_code, 1, none, 5, (6, 128, 1), [(0, .aload_n 0, 1), (1, .invokevirtual 44, 3), (4, .aload_n 0, 1), (5, .getfield 34, 3), (8, .iconst (-1), 1), (9, .if_icmp .ne 39, 3), (12, .aload_n 0, 1), (13, .getfield 14, 3), (16, .aload_n 0, 1), (17, .getfield 30, 3), (20, .invokevirtual 102, 3), (23, .bipush 97, 2), (25, .bipush 122, 2), (27, .invokestatic 112, 3), (30, .ifCond .eq 18, 3), (33, .aload_n 0, 1), (34, .ldc 116, 2), (36, .invokevirtual 69, 3), (39, .aload_n 0, 1), (40, .getfield 23, 3), (43, .iconst 4, 1), (44, .iconst 1, 1), (45, .invokevirtual 73, 3), (48, .return_, 1)])
def t_Rea_readSemicolon : am_T := (⟨RX5, "readSemicolon", "()Z"⟩, prog_7_method_9_code, 1, (some .boolean), 5, (3, 61, 1), [(0, .aload_n 0, 1), (1, .invokevirtual 44, 3), (4, .aload_n 0, 1), (5, .getfield 14, 3), (8, .aload_n 0, 1), (9, .getfield 30, 3), (12, .invokevirtual 102, 3), (15, .bipush 59, 2), (17, .if_icmp .ne 15, 3), (20, .aload_n 0, 1), (21, .dup, 1), (22, .getfield 30, 3), (25, .iconst 1, 1), (26, .iadd, 1), (27, .putfield 30, 3), (30, .iconst 1, 1), (31, .ireturn, 1), (32, .aload_n 0, 1), (33, .getfield 30, 3), (36, .aload_n 0, 1), (37, .getfield 14, 3), (40, .invokevirtual 118, 3), (43, .if_icmp .ge 11, 3), (46, .aload_n 0, 1), (47, .aload_n 0, 1), (48, .getfield 30, 3), (51, .invokevirtual 54, 3), (54, .iconst 0, 1), (55, .ireturn, 1)])
def t_SB_addDraft : am_T := (⟨RX8, "addDraft", "(I)I"⟩, prog_1_method_5_code, 2, (some .int), 8, (4, 86, 2), [(0, .aload_n 0, 1), (1, .getfield 28, 3), (4, .aload_n 0, 1), (5, .getfield 12, 3), (8, .getfield 80, 3), (11, .invokevirtual 84, 3), (14, .ifCond .ne 6, 3), (17, .bipush (-4), 2), (19, .ireturn, 1), (20, .aload_n 0, 1), (21, .getfield 35, 3), (24, .aload_n 0, 1), (25, .getfield 28, 3), (28, .invokevirtual 88, 3), (31, .aload_n 0, 1), (32, .getfield 28, 3), (35, .aload_n 0, 1), (36, .getfield 12, 3), (39, .getfield 80, 3), (42, .iload_n 1, 1), (43, .invokevirtual 92, 3), (46, .aload_n 0, 1), (47, .getfield 28, 3), (50, .invokevirtual 96, 3), (53, .iconst 1, 1), (54, .isub, 1), (55, .ireturn, 1)])
def t_Amd_hasRoomFor : am_T := (⟨RX0, "hasRoomFor", "(LStatuteBook$Draft;)Z"⟩, prog_2_method_16_code, 2, (some .boolean), 0, (2, 41, 2), [(0, .aload_n 0, 1), (1, .invokevirtual 31, 3), (4, .bipush 20, 2), (6, .if_icmp .ge 35, 3), (9, .aload_n 0, 1), (10, .invokevirtual 42, 3), (13, .aload_n 1, 1), (14, .invokevirtual 45, 3), (17, .iadd, 1), (18, .bipush 120, 2), (20, .if_icmp .gt 21, 3), (23, .aload_n 0, 1), (24, .invokevirtual 48, 3), (27, .aload_n 1, 1), (28, .invokevirtual 51, 3), (31, .iadd, 1), (32, .bipush 40, 2), (34, .if_icmp .gt 7, 3), (37, .iconst 1, 1), (38, .goto 4, 3), (41, .iconst 0, 1), (42, .ireturn, 1)])
def t_Amd_size : am_T := (⟨RX0, "size", "()I"⟩, prog_2_method_2_code, 1, (some .int), 0, (1, 21, 1), [(0, .aload_n 0, 1), (1, .getfield 16, 3), (4, .iconst 0, 1), (5, .invokevirtual 20, 3), (8, .ireturn, 1)])
def t_Amd_operations : am_T := (⟨RX0, "operations", "()I"⟩, prog_2_method_3_code, 1, (some .int), 0, (1, 21, 1), [(0, .aload_n 0, 1), (1, .getfield 16, 3), (4, .iconst 1, 1), (5, .invokevirtual 20, 3), (8, .ireturn, 1)])
def t_Amd_identities : am_T := (⟨RX0, "identities", "()I"⟩, prog_2_method_4_code, 1, (some .int), 0, (1, 21, 1), [(0, .aload_n 0, 1), (1, .getfield 16, 3), (4, .iconst 2, 1), (5, .invokevirtual 20, 3), (8, .ireturn, 1)])
def t_Dra_inserts : am_T := (⟨RX2, "inserts", "()I"⟩, prog_4_method_4_code, 1, (some .int), 2, (0, 0, 1), [(0, .aload_n 0, 1), (1, .getfield 24, 3), (4, .ireturn, 1)])
def t_Arc_push : am_T := (⟨RX1, "push", "(LStatuteBook$Amendments;)V"⟩, prog_3_method_5_code, 2, none, 1, (3, 65, 2), [(0, .aload_n 0, 1), (1, .aload_n 0, 1), (2, .getfield 31, 3), (5, .iconst 1, 1), (6, .iadd, 1), (7, .bipush 10, 2), (9, .irem, 1), (10, .putfield 31, 3), (13, .aload_n 0, 1), (14, .aload_n 0, 1), (15, .getfield 22, 3), (18, .iconst 1, 1), (19, .iadd, 1), (20, .bipush 10, 2), (22, .invokestatic 34, 3), (25, .putfield 22, 3), (28, .aload_n 0, 1), (29, .aload_n 0, 1), (30, .getfield 31, 3), (33, .aload_n 1, 1), (34, .invokevirtual 40, 3), (37, .return_, 1)])
def t_Arc_putAway : am_T := (⟨RX1, "putAway", "(ILStatuteBook$Amendments;)V"⟩, prog_3_method_3_code, 3, none, 1, (2, 43, 3), [(0, .aload_n 0, 1), (1, .getfield 16, 3), (4, .aload_n 2, 1), (5, .getfield 26, 3), (8, .iconst 0, 1), (9, .iload_n 1, 1), (10, .sipush 1605, 3), (13, .imul, 1), (14, .sipush 1605, 3), (17, .invokevirtual 27, 3), (20, .return_, 1)])
def t_Row_take : am_T := (⟨RX6, "take", "(LStatuteBook$Row;III)V"⟩, prog_8_method_5_code, 6, none, 6, (1, 18, 5), [(0, .iload_n 2, 1), (1, .ifCond .lt 24, 3), (4, .iload 4, 2), (6, .ifCond .lt 19, 3), (9, .iload_n 2, 1), (10, .aload_n 1, 1), (11, .getfield 13, 3), (14, .arraylength, 1), (15, .iload 4, 2), (17, .isub, 1), (18, .if_icmp .gt 7, 3), (21, .iconst 1, 1), (22, .goto 4, 3), (25, .iconst 0, 1), (26, .istore 5, 2), (28, .iload 5, 2), (30, .ifCond .eq 34, 3), (33, .iload_n 3, 1), (34, .ifCond .lt 30, 3), (37, .iload_n 3, 1), (38, .aload_n 0, 1), (39, .getfield 13, 3), (42, .arraylength, 1), (43, .iload 4, 2), (45, .isub, 1), (46, .if_icmp .gt 18, 3), (49, .aload_n 1, 1), (50, .getfield 13, 3), (53, .iload_n 2, 1), (54, .aload_n 0, 1), (55, .getfield 13, 3), (58, .iload_n 3, 1), (59, .iload 4, 2), (61, .invokestatic 25, 3), (64, .return_, 1)])
def t_Amd_add : am_T := (⟨RX0, "add", "(LStatuteBook$Draft;I)V"⟩, prog_2_method_17_code, 7, none, 0, (2, 44, 3), [(0, .aload_n 0, 1), (1, .invokevirtual 42, 3), (4, .istore_n 3, 1), (5, .iload_n 3, 1), (6, .aload_n 1, 1), (7, .invokevirtual 45, 3), (10, .iadd, 1), (11, .istore 4, 2), (13, .bipush 45, 2), (15, .iload_n 3, 1), (16, .bipush 13, 2), (18, .imul, 1), (19, .iadd, 1), (20, .istore 5, 2), (22, .aload_n 0, 1), (23, .getfield 16, 3), (26, .aload_n 1, 1), (27, .getfield 54, 3), (30, .iconst 0, 1), (31, .iload 5, 2), (33, .aload_n 1, 1), (34, .invokevirtual 45, 3), (37, .bipush 13, 2), (39, .imul, 1), (40, .invokevirtual 55, 3), (43, .iload_n 3, 1), (44, .istore 6, 2), (46, .iload 6, 2), (48, .iload 4, 2), (50, .if_icmp .ge 55, 3), (53, .aload_n 0, 1), (54, .iload 6, 2), (56, .iconst 0, 1), (57, .invokevirtual 59, 3), (60, .ifCond .ne 39, 3), (63, .aload_n 0, 1), (64, .getfield 16, 3), (67, .bipush 45, 2), (69, .iload 6, 2), (71, .bipush 13, 2), (73, .imul, 1), (74, .iadd, 1), (75, .bipush 6, 2), (77, .iadd, 1), (78, .aload_n 0, 1), (79, .invokevirtual 48, 3), (82, .invokevirtual 24, 3), (85, .aload_n 0, 1), (86, .getfield 16, 3), (89, .iconst 2, 1), (90, .aload_n 0, 1), (91, .invokevirtual 48, 3), (94, .iconst 1, 1), (95, .iadd, 1), (96, .invokevirtual 24, 3), (99, .iinc 6 1, 3), (102, .goto (-56), 3), (105, .aload_n 0, 1), (106, .aload_n 0, 1), (107, .invokevirtual 31, 3), (110, .iload_n 2, 1), (111, .invokevirtual 63, 3), (114, .aload_n 0, 1), (115, .getfield 16, 3), (118, .iconst 0, 1), (119, .aload_n 0, 1), (120, .invokevirtual 31, 3), (123, .iconst 1, 1), (124, .iadd, 1), (125, .invokevirtual 24, 3), (128, .aload_n 0, 1), (129, .getfield 16, 3), (132, .bipush 24, 2), (134, .aload_n 0, 1), (135, .invokevirtual 31, 3), (138, .iadd, 1), (139, .iload 4, 2), (141, .invokevirtual 24, 3), (144, .aload_n 0, 1), (145, .getfield 16, 3), (148, .iconst 1, 1), (149, .iload 4, 2), (151, .invokevirtual 24, 3), (154, .return_, 1)])
def t_Amd_cell : am_T := (⟨RX0, "cell", "(II)I"⟩, prog_2_method_14_code, 3, (some .int), 0, (1, 21, 3), [(0, .aload_n 0, 1), (1, .getfield 16, 3), (4, .bipush 45, 2), (6, .iload_n 1, 1), (7, .bipush 13, 2), (9, .imul, 1), (10, .iadd, 1), (11, .iload_n 2, 1), (12, .iadd, 1), (13, .invokevirtual 20, 3), (16, .ireturn, 1)])
def t_Amd_setDay : am_T := (⟨RX0, "setDay", "(II)V"⟩, prog_2_method_9_code, 3, none, 0, (1, 22, 3), [(0, .aload_n 0, 1), (1, .getfield 16, 3), (4, .iconst 4, 1), (5, .iload_n 1, 1), (6, .iadd, 1), (7, .iload_n 2, 1), (8, .invokevirtual 24, 3), (11, .return_, 1)])
def t_SB_revoke : am_T := (⟨RX8, "revoke", "(IZ)I"⟩, prog_1_method_6_code, 3, (some .int), 8, (4, 86, 3), [(0, .aload_n 0, 1), (1, .getfield 28, 3), (4, .iload_n 1, 1), (5, .invokevirtual 99, 3), (8, .ifCond .ne 6, 3), (11, .bipush (-2), 2), (13, .ireturn, 1), (14, .aload_n 0, 1), (15, .getfield 28, 3), (18, .iload_n 1, 1), (19, .invokevirtual 103, 3), (22, .iload_n 2, 1), (23, .if_icmp .ne 6, 3), (26, .bipush (-3), 2), (28, .ireturn, 1), (29, .aload_n 0, 1), (30, .getfield 35, 3), (33, .aload_n 0, 1), (34, .getfield 28, 3), (37, .invokevirtual 88, 3), (40, .aload_n 0, 1), (41, .getfield 28, 3), (44, .aload_n 0, 1), (45, .getfield 28, 3), (48, .invokevirtual 106, 3), (51, .iconst 1, 1), (52, .iload_n 1, 1), (53, .ishl, 1), (54, .ixor, 1), (55, .invokevirtual 109, 3), (58, .iconst 1, 1), (59, .ireturn, 1)])
def t_Amd_has : am_T := (⟨RX0, "has", "(I)Z"⟩, prog_2_method_12_code, 2, (some .boolean), 0, (2, 41, 2), [(0, .iload_n 1, 1), (1, .ifCond .lt 15, 3), (4, .iload_n 1, 1), (5, .aload_n 0, 1), (6, .invokevirtual 31, 3), (9, .if_icmp .ge 7, 3), (12, .iconst 1, 1), (13, .goto 4, 3), (16, .iconst 0, 1), (17, .ireturn, 1)])
def t_Amd_isRevoked : am_T := (⟨RX0, "isRevoked", "(I)Z"⟩, prog_2_method_7_code, 2, (some .boolean), 0, (1, 21, 2), [(0, .aload_n 0, 1), (1, .getfield 16, 3), (4, .iconst 3, 1), (5, .invokevirtual 20, 3), (8, .iload_n 1, 1), (9, .ishr, 1), (10, .iconst 1, 1), (11, .iand, 1), (12, .iconst 1, 1), (13, .if_icmp .ne 7, 3), (16, .iconst 1, 1), (17, .goto 4, 3), (20, .iconst 0, 1), (21, .ireturn, 1)])
def t_Amd_revoked : am_T := (⟨RX0, "revoked", "()I"⟩, prog_2_method_5_code, 1, (some .int), 0, (1, 21, 1), [(0, .aload_n 0, 1), (1, .getfield 16, 3), (4, .iconst 3, 1), (5, .invokevirtual 20, 3), (8, .ireturn, 1)])
def t_Amd_setRevoked : am_T := (⟨RX0, "setRevoked", "(I)V"⟩, prog_2_method_6_code, 2, none, 0, (1, 22, 2), [(0, .aload_n 0, 1), (1, .getfield 16, 3), (4, .iconst 3, 1), (5, .iload_n 1, 1), (6, .invokevirtual 24, 3), (9, .return_, 1)])
def t_SB_commence : am_T := (⟨RX8, "commence", "(II)I"⟩, prog_1_method_7_code, 4, (some .int), 8, (4, 86, 3), [(0, .aload_n 0, 1), (1, .getfield 28, 3), (4, .iload_n 1, 1), (5, .invokevirtual 99, 3), (8, .ifCond .eq 13, 3), (11, .iload_n 2, 1), (12, .sipush 9999, 3), (15, .invokestatic 56, 3), (18, .ifCond .ne 6, 3), (21, .bipush (-2), 2), (23, .ireturn, 1), (24, .aload_n 0, 1), (25, .getfield 28, 3), (28, .iload_n 1, 1), (29, .invokevirtual 112, 3), (32, .istore_n 3, 1), (33, .aload_n 0, 1), (34, .getfield 35, 3), (37, .aload_n 0, 1), (38, .getfield 28, 3), (41, .invokevirtual 88, 3), (44, .aload_n 0, 1), (45, .getfield 28, 3), (48, .iload_n 1, 1), (49, .iload_n 2, 1), (50, .invokevirtual 115, 3), (53, .iload_n 3, 1), (54, .ireturn, 1)])
def t_Amd_day : am_T := (⟨RX0, "day", "(I)I"⟩, prog_2_method_8_code, 2, (some .int), 0, (1, 21, 2), [(0, .aload_n 0, 1), (1, .getfield 16, 3), (4, .iconst 4, 1), (5, .iload_n 1, 1), (6, .iadd, 1), (7, .invokevirtual 20, 3), (10, .ireturn, 1)])
def t_SB_withdraw : am_T := (⟨RX8, "withdraw", "()I"⟩, prog_1_method_8_code, 1, (some .int), 8, (4, 86, 1), [(0, .aload_n 0, 1), (1, .getfield 28, 3), (4, .invokevirtual 96, 3), (7, .ifCond .ne 6, 3), (10, .bipush (-3), 2), (12, .ireturn, 1), (13, .aload_n 0, 1), (14, .getfield 35, 3), (17, .aload_n 0, 1), (18, .getfield 28, 3), (21, .invokevirtual 88, 3), (24, .aload_n 0, 1), (25, .getfield 28, 3), (28, .invokevirtual 119, 3), (31, .aload_n 0, 1), (32, .getfield 28, 3), (35, .invokevirtual 96, 3), (38, .ireturn, 1)])
def t_Amd_removeLast : am_T := (⟨RX0, "removeLast", "()V"⟩, prog_2_method_18_code, 3, none, 0, (2, 43, 1), [(0, .aload_n 0, 1), (1, .invokevirtual 31, 3), (4, .iconst 1, 1), (5, .isub, 1), (6, .istore_n 1, 1), (7, .aload_n 0, 1), (8, .iload_n 1, 1), (9, .invokevirtual 28, 3), (12, .istore_n 2, 1), (13, .iload_n 2, 1), (14, .aload_n 0, 1), (15, .invokevirtual 42, 3), (18, .if_icmp .ge 32, 3), (21, .aload_n 0, 1), (22, .iload_n 2, 1), (23, .iconst 0, 1), (24, .invokevirtual 59, 3), (27, .ifCond .ne 17, 3), (30, .aload_n 0, 1), (31, .getfield 16, 3), (34, .iconst 2, 1), (35, .aload_n 0, 1), (36, .invokevirtual 48, 3), (39, .iconst 1, 1), (40, .isub, 1), (41, .invokevirtual 24, 3), (44, .iinc 2 1, 3), (47, .goto (-34), 3), (50, .aload_n 0, 1), (51, .getfield 16, 3), (54, .iconst 1, 1), (55, .aload_n 0, 1), (56, .iload_n 1, 1), (57, .invokevirtual 28, 3), (60, .invokevirtual 24, 3), (63, .aload_n 0, 1), (64, .aload_n 0, 1), (65, .invokevirtual 66, 3), (68, .iconst 1, 1), (69, .iload_n 1, 1), (70, .ishl, 1), (71, .iconst (-1), 1), (72, .ixor, 1), (73, .iand, 1), (74, .invokevirtual 69, 3), (77, .aload_n 0, 1), (78, .getfield 16, 3), (81, .iconst 0, 1), (82, .iload_n 1, 1), (83, .invokevirtual 24, 3), (86, .return_, 1)])
def t_Amd_start : am_T := (⟨RX0, "start", "(I)I"⟩, prog_2_method_10_code, 2, (some .int), 0, (1, 21, 2), [(0, .aload_n 0, 1), (1, .getfield 16, 3), (4, .bipush 24, 2), (6, .iload_n 1, 1), (7, .iadd, 1), (8, .invokevirtual 20, 3), (11, .ireturn, 1)])
def t_SB_undo : am_T := (⟨RX8, "undo", "()I"⟩, prog_1_method_9_code, 1, (some .int), 8, (4, 86, 1), [(0, .aload_n 0, 1), (1, .getfield 35, 3), (4, .invokevirtual 122, 3), (7, .ifCond .ne 6, 3), (10, .bipush (-3), 2), (12, .ireturn, 1), (13, .aload_n 0, 1), (14, .getfield 35, 3), (17, .aload_n 0, 1), (18, .getfield 28, 3), (21, .invokevirtual 125, 3), (24, .aload_n 0, 1), (25, .getfield 35, 3), (28, .invokevirtual 122, 3), (31, .ireturn, 1)])
def t_Arc_states : am_T := (⟨RX1, "states", "()I"⟩, prog_3_method_2_code, 1, (some .int), 1, (0, 0, 1), [(0, .aload_n 0, 1), (1, .getfield 22, 3), (4, .ireturn, 1)])
def t_Arc_pop : am_T := (⟨RX1, "pop", "(LStatuteBook$Amendments;)V"⟩, prog_3_method_6_code, 2, none, 1, (3, 65, 2), [(0, .aload_n 0, 1), (1, .aload_n 0, 1), (2, .getfield 31, 3), (5, .aload_n 1, 1), (6, .invokevirtual 44, 3), (9, .aload_n 0, 1), (10, .aload_n 0, 1), (11, .getfield 31, 3), (14, .bipush 10, 2), (16, .iadd, 1), (17, .iconst 1, 1), (18, .isub, 1), (19, .bipush 10, 2), (21, .irem, 1), (22, .putfield 31, 3), (25, .aload_n 0, 1), (26, .dup, 1), (27, .getfield 22, 3), (30, .iconst 1, 1), (31, .isub, 1), (32, .putfield 22, 3), (35, .return_, 1)])
def t_Arc_bring : am_T := (⟨RX1, "bring", "(ILStatuteBook$Amendments;)V"⟩, prog_3_method_4_code, 3, none, 1, (2, 43, 3), [(0, .aload_n 2, 1), (1, .getfield 26, 3), (4, .aload_n 0, 1), (5, .getfield 16, 3), (8, .iload_n 1, 1), (9, .sipush 1605, 3), (12, .imul, 1), (13, .iconst 0, 1), (14, .sipush 1605, 3), (17, .invokevirtual 27, 3), (20, .return_, 1)])
def t_SB_amendment : am_T := (⟨RX8, "amendment", "(II)I"⟩, prog_1_method_10_code, 3, (some .int), 8, (7, 164, 3), [(0, .aload_n 0, 1), (1, .getfield 28, 3), (4, .iload_n 1, 1), (5, .invokevirtual 99, 3), (8, .ifCond .eq 11, 3), (11, .iload_n 2, 1), (12, .iconst 3, 1), (13, .invokestatic 56, 3), (16, .ifCond .ne 6, 3), (19, .bipush (-2), 2), (21, .ireturn, 1), (22, .aload_n 0, 1), (23, .invokevirtual 128, 3), (26, .aload_n 0, 1), (27, .iload_n 1, 1), (28, .iload_n 2, 1), (29, .invokevirtual 131, 3), (32, .ireturn, 1)])
def t_SB_consolidateFully : am_T := (⟨RX8, "consolidateFully", "()V"⟩, prog_1_method_55_code, 1, none, 8, (6, 144, 1), [(0, .aload_n 0, 1), (1, .getfield 42, 3), (4, .aload_n 0, 1), (5, .getfield 28, 3), (8, .sipush 9999, 3), (11, .iconst (-1), 1), (12, .aload_n 0, 1), (13, .getfield 28, 3), (16, .invokevirtual 106, 3), (19, .invokevirtual 217, 3), (22, .return_, 1)])
def t_Law_consolidate : am_T := (⟨RX3, "consolidate", "(LStatuteBook$Amendments;III)V"⟩, prog_5_method_2_code, 7, none, 3, (5, 118, 5), [(0, .aload_n 0, 1), (1, .getfield 14, 3), (4, .iconst 0, 1), (5, .invokevirtual 44, 3), (8, .aload_n 0, 1), (9, .getfield 32, 3), (12, .iconst 5, 1), (13, .invokevirtual 44, 3), (16, .aload_n 0, 1), (17, .getfield 35, 3), (20, .iconst (-1), 1), (21, .invokevirtual 44, 3), (24, .aload_n 0, 1), (25, .iconst 0, 1), (26, .putfield 47, 3), (29, .aload_n 1, 1), (30, .iload_n 2, 1), (31, .iload 4, 2), (33, .iconst (-1), 1), (34, .invokestatic 51, 3), (37, .istore 5, 2), (39, .iconst 0, 1), (40, .istore 6, 2), (42, .iload 6, 2), (44, .bipush 20, 2), (46, .if_icmp .ge 37, 3), (49, .iload 5, 2), (51, .iconst (-1), 1), (52, .if_icmp .eq 31, 3), (55, .aload_n 0, 1), (56, .aload_n 1, 1), (57, .iload 5, 2), (59, .bipush 20, 2), (61, .irem, 1), (62, .iload_n 3, 1), (63, .invokevirtual 55, 3), (66, .aload_n 1, 1), (67, .iload_n 2, 1), (68, .iload 4, 2), (70, .iload 5, 2), (72, .invokestatic 51, 3), (75, .istore 5, 2), (77, .iinc 6 1, 3), (80, .goto (-38), 3), (83, .aload_n 0, 1), (84, .invokevirtual 59, 3), (87, .return_, 1)])
def t_Row_fill : am_T := (⟨RX6, "fill", "(I)V"⟩, prog_8_method_4_code, 2, none, 6, (1, 23, 2), [(0, .aload_n 0, 1), (1, .getfield 13, 3), (4, .iload_n 1, 1), (5, .invokestatic 19, 3), (8, .return_, 1)])
def t_Arr_fill : am_T := (⟨"java/util/Arrays", "fill", "([II)V"⟩, prog_18_method_103_code, 4, none, 13, (0, 0, 2), [(0, .iconst 0, 1), (1, .istore_n 2, 1), (2, .aload_n 0, 1), (3, .arraylength, 1), (4, .istore_n 3, 1), (5, .iload_n 2, 1), (6, .iload_n 3, 1), (7, .if_icmp .ge 13, 3), (10, .aload_n 0, 1), (11, .iload_n 2, 1), (12, .iload_n 1, 1), (13, .iastore, 1), (14, .iinc 2 1, 3), (17, .goto (-12), 3), (20, .return_, 1)])
def t_Law_nextKey : am_T := (⟨RX3, "nextKey", "(LStatuteBook$Amendments;III)I"⟩, prog_5_method_3_code, 8, (some .int), 3, (2, 42, 4), [(0, .iconst (-1), 1), (1, .istore 4, 2), (3, .iconst 0, 1), (4, .istore 5, 2), (6, .iload 5, 2), (8, .aload_n 0, 1), (9, .invokevirtual 62, 3), (12, .if_icmp .ge 77, 3), (15, .aload_n 0, 1), (16, .iload 5, 2), (18, .invokevirtual 68, 3), (21, .bipush 20, 2), (23, .imul, 1), (24, .iload 5, 2), (26, .iadd, 1), (27, .istore 6, 2), (29, .iload_n 2, 1), (30, .iload 5, 2), (32, .ishr, 1), (33, .iconst 1, 1), (34, .iand, 1), (35, .ifCond .ne 17, 3), (38, .aload_n 0, 1), (39, .iload 5, 2), (41, .invokevirtual 68, 3), (44, .iload_n 1, 1), (45, .if_icmp .gt 7, 3), (48, .iconst 1, 1), (49, .goto 4, 3), (52, .iconst 0, 1), (53, .istore 7, 2), (55, .iload 7, 2), (57, .ifCond .eq 26, 3), (60, .iload 6, 2), (62, .iload_n 3, 1), (63, .if_icmp .le 20, 3), (66, .iload 4, 2), (68, .iconst (-1), 1), (69, .if_icmp .eq 10, 3), (72, .iload 6, 2), (74, .iload 4, 2), (76, .if_icmp .ge 7, 3), (79, .iload 6, 2), (81, .istore 4, 2), (83, .iinc 5 1, 3), (86, .goto (-80), 3), (89, .iload 4, 2), (91, .ireturn, 1)])
def t_Law_carryOut : am_T := (⟨RX3, "carryOut", "(LStatuteBook$Amendments;II)V"⟩, prog_5_method_4_code, 11, none, 3, (4, 88, 4), [(0, .aload_n 1, 1), (1, .iload_n 2, 1), (2, .invokevirtual 68, 3), (5, .istore 4, 2), (7, .iload_n 3, 1), (8, .iconst (-1), 1), (9, .if_icmp .eq 13, 3), (12, .iload_n 3, 1), (13, .iload 4, 2), (15, .if_icmp .ge 7, 3), (18, .iconst 1, 1), (19, .goto 4, 3), (22, .iconst 0, 1), (23, .istore 5, 2), (25, .aload_n 1, 1), (26, .iload_n 2, 1), (27, .iconst 1, 1), (28, .iadd, 1), (29, .invokevirtual 72, 3), (32, .istore 6, 2), (34, .aload_n 1, 1), (35, .iload_n 2, 1), (36, .invokevirtual 72, 3), (39, .istore 7, 2), (41, .iload 7, 2), (43, .iload 6, 2), (45, .if_icmp .ge 154, 3), (48, .iload 5, 2), (50, .ifCond .eq 17, 3), (53, .aload_n 1, 1), (54, .iload 7, 2), (56, .iconst 4, 1), (57, .invokevirtual 75, 3), (60, .iconst 1, 1), (61, .if_icmp .ne 6, 3), (64, .goto 129, 3), (67, .aload_n 0, 1), (68, .aload_n 1, 1), (69, .iload 7, 2), (71, .iconst 1, 1), (72, .invokevirtual 75, 3), (75, .invokevirtual 79, 3), (78, .istore 8, 2), (80, .aload_n 0, 1), (81, .aload_n 1, 1), (82, .iload 7, 2), (84, .iload 8, 2), (86, .aload_n 0, 1), (87, .aload_n 1, 1), (88, .iload 7, 2), (90, .invokevirtual 82, 3), (93, .invokevirtual 86, 3), (96, .istore 9, 2), (98, .aload_n 0, 1), (99, .getfield 32, 3), (102, .iload 7, 2), (104, .iload 9, 2), (106, .invokevirtual 90, 3), (109, .iload 9, 2), (111, .ifCond .ne 82, 3), (114, .aload_n 1, 1), (115, .iload 7, 2), (117, .iconst 0, 1), (118, .invokevirtual 75, 3), (121, .ifCond .ne 14, 3), (124, .aload_n 1, 1), (125, .iload 7, 2), (127, .bipush 6, 2), (129, .invokevirtual 75, 3), (132, .goto 5, 3), (135, .iload 8, 2), (137, .istore 10, 2), (139, .aload_n 0, 1), (140, .aload_n 1, 1), (141, .iload 7, 2), (143, .iload 10, 2), (145, .invokevirtual 94, 3), (148, .aload_n 0, 1), (149, .getfield 20, 3), (152, .iload 10, 2), (154, .iload 4, 2), (156, .invokevirtual 90, 3), (159, .aload_n 0, 1), (160, .getfield 35, 3), (163, .iload 7, 2), (165, .iload 10, 2), (167, .invokevirtual 90, 3), (170, .aload_n 0, 1), (171, .getfield 38, 3), (174, .aload_n 0, 1), (175, .getfield 47, 3), (178, .iload 7, 2), (180, .invokevirtual 90, 3), (183, .aload_n 0, 1), (184, .dup, 1), (185, .getfield 47, 3), (188, .iconst 1, 1), (189, .iadd, 1), (190, .putfield 47, 3), (193, .iinc 7 1, 3), (196, .goto (-155), 3), (199, .return_, 1)])
def t_Law_holder : am_T := (⟨RX3, "holder", "(I)I"⟩, prog_5_method_5_code, 3, (some .int), 3, (1, 21, 2), [(0, .iconst 0, 1), (1, .istore_n 2, 1), (2, .iload_n 2, 1), (3, .bipush 40, 2), (5, .if_icmp .ge 23, 3), (8, .aload_n 0, 1), (9, .getfield 14, 3), (12, .iload_n 2, 1), (13, .invokevirtual 97, 3), (16, .iload_n 1, 1), (17, .if_icmp .ne 5, 3), (20, .iload_n 2, 1), (21, .ireturn, 1), (22, .iinc 2 1, 3), (25, .goto (-23), 3), (28, .iconst (-1), 1), (29, .ireturn, 1)])
def t_Law_resolves : am_T := (⟨RX3, "resolves", "(LStatuteBook$Amendments;I)Z"⟩, prog_5_method_6_code, 6, (some .boolean), 3, (2, 43, 3), [(0, .iconst 0, 1), (1, .istore_n 3, 1), (2, .iload_n 3, 1), (3, .aload_n 1, 1), (4, .iload_n 2, 1), (5, .iconst 5, 1), (6, .invokevirtual 75, 3), (9, .if_icmp .ge 66, 3), (12, .aload_n 1, 1), (13, .iload_n 2, 1), (14, .bipush 7, 2), (16, .iload_n 3, 1), (17, .iadd, 1), (18, .invokevirtual 75, 3), (21, .istore 4, 2), (23, .iload 4, 2), (25, .sipush 1000, 3), (28, .if_icmp .lt 31, 3), (31, .aload_n 0, 1), (32, .iload 4, 2), (34, .sipush 1000, 3), (37, .isub, 1), (38, .invokevirtual 79, 3), (41, .istore 5, 2), (43, .iload 5, 2), (45, .iconst (-1), 1), (46, .if_icmp .ne 5, 3), (49, .iconst 0, 1), (50, .ireturn, 1), (51, .sipush 1000, 3), (54, .iload 5, 2), (56, .iadd, 1), (57, .istore 4, 2), (59, .aload_n 0, 1), (60, .getfield 41, 3), (63, .iload_n 3, 1), (64, .iload 4, 2), (66, .invokevirtual 90, 3), (69, .iinc 3 1, 3), (72, .goto (-70), 3), (75, .iconst 1, 1), (76, .ireturn, 1)])
def t_Law_reason : am_T := (⟨RX3, "reason", "(LStatuteBook$Amendments;IIZ)I"⟩, prog_5_method_7_code, 6, (some .int), 3, (2, 46, 5), [(0, .aload_n 1, 1), (1, .iload_n 2, 1), (2, .iconst 0, 1), (3, .invokevirtual 75, 3), (6, .istore 5, 2), (8, .iload 5, 2), (10, .ifCond .eq 10, 3), (13, .iload_n 3, 1), (14, .iconst (-1), 1), (15, .if_icmp .ne 5, 3), (18, .iconst 1, 1), (19, .ireturn, 1), (20, .iload 5, 2), (22, .ifCond .ne 10, 3), (25, .iload_n 3, 1), (26, .iconst (-1), 1), (27, .if_icmp .eq 5, 3), (30, .iconst 2, 1), (31, .ireturn, 1), (32, .iload 5, 2), (34, .iconst 3, 1), (35, .if_icmp .ne 19, 3), (38, .aload_n 0, 1), (39, .aload_n 1, 1), (40, .iload_n 2, 1), (41, .iconst 2, 1), (42, .invokevirtual 75, 3), (45, .invokevirtual 79, 3), (48, .iconst (-1), 1), (49, .if_icmp .eq 5, 3), (52, .iconst 2, 1), (53, .ireturn, 1), (54, .iload 5, 2), (56, .iconst 4, 1), (57, .if_icmp .ne 19, 3), (60, .aload_n 0, 1), (61, .iload_n 3, 1), (62, .aload_n 1, 1), (63, .iload_n 2, 1), (64, .iconst 2, 1), (65, .invokevirtual 75, 3), (68, .invokevirtual 100, 3), (71, .ifCond .ne 5, 3), (74, .iconst 3, 1), (75, .ireturn, 1), (76, .iload 4, 2), (78, .ifCond .eq 7, 3), (81, .iconst 0, 1), (82, .goto 4, 3), (85, .iconst 4, 1), (86, .ireturn, 1)])
def t_Law_contains : am_T := (⟨RX3, "contains", "(II)Z"⟩, prog_5_method_20_code, 6, (some .boolean), 3, (1, 21, 3), [(0, .iload_n 1, 1), (1, .bipush 6, 2), (3, .imul, 1), (4, .istore_n 3, 1), (5, .iload_n 3, 1), (6, .aload_n 0, 1), (7, .getfield 23, 3), (10, .iload_n 1, 1), (11, .invokevirtual 97, 3), (14, .iadd, 1), (15, .istore 4, 2), (17, .iload_n 3, 1), (18, .istore 5, 2), (20, .iload 5, 2), (22, .iload 4, 2), (24, .if_icmp .ge 24, 3), (27, .aload_n 0, 1), (28, .getfield 26, 3), (31, .iload 5, 2), (33, .invokevirtual 97, 3), (36, .iload_n 2, 1), (37, .if_icmp .ne 5, 3), (40, .iconst 1, 1), (41, .ireturn, 1), (42, .iinc 5 1, 3), (45, .goto (-25), 3), (48, .iconst 0, 1), (49, .ireturn, 1)])
def t_Law_perform : am_T := (⟨RX3, "perform", "(LStatuteBook$Amendments;II)V"⟩, prog_5_method_8_code, 4, none, 3, (3, 65, 4), [(0, .aload_n 1, 1), (1, .iload_n 2, 1), (2, .iconst 0, 1), (3, .invokevirtual 75, 3), (6, .tableswitch 101 0 3 #[30, 58, 72, 84], 30), (36, .aload_n 0, 1), (37, .getfield 14, 3), (40, .iload_n 3, 1), (41, .aload_n 1, 1), (42, .iload_n 2, 1), (43, .iconst 1, 1), (44, .invokevirtual 75, 3), (47, .invokevirtual 90, 3), (50, .aload_n 0, 1), (51, .iload_n 3, 1), (52, .aload_n 1, 1), (53, .iload_n 2, 1), (54, .iconst 5, 1), (55, .invokevirtual 75, 3), (58, .invokevirtual 104, 3), (61, .goto 63, 3), (64, .aload_n 0, 1), (65, .iload_n 3, 1), (66, .aload_n 1, 1), (67, .iload_n 2, 1), (68, .iconst 5, 1), (69, .invokevirtual 75, 3), (72, .invokevirtual 104, 3), (75, .goto 49, 3), (78, .aload_n 0, 1), (79, .getfield 14, 3), (82, .iload_n 3, 1), (83, .iconst 0, 1), (84, .invokevirtual 90, 3), (87, .goto 37, 3), (90, .aload_n 0, 1), (91, .getfield 14, 3), (94, .iload_n 3, 1), (95, .aload_n 1, 1), (96, .iload_n 2, 1), (97, .iconst 2, 1), (98, .invokevirtual 75, 3), (101, .invokevirtual 90, 3), (104, .goto 20, 3), (107, .aload_n 0, 1), (108, .iload_n 3, 1), (109, .aload_n 1, 1), (110, .iload_n 2, 1), (111, .iconst 2, 1), (112, .invokevirtual 75, 3), (115, .aload_n 1, 1), (116, .iload_n 2, 1), (117, .iconst 3, 1), (118, .invokevirtual 75, 3), (121, .invokevirtual 107, 3), (124, .return_, 1)])
def t_Law_setText : am_T := (⟨RX3, "setText", "(II)V"⟩, prog_5_method_9_code, 3, none, 3, (2, 43, 3), [(0, .aload_n 0, 1), (1, .getfield 23, 3), (4, .iload_n 1, 1), (5, .iload_n 2, 1), (6, .invokevirtual 90, 3), (9, .aload_n 0, 1), (10, .getfield 26, 3), (13, .aload_n 0, 1), (14, .getfield 41, 3), (17, .iconst 0, 1), (18, .iload_n 1, 1), (19, .bipush 6, 2), (21, .imul, 1), (22, .iload_n 2, 1), (23, .invokevirtual 111, 3), (26, .return_, 1)])
def t_Law_change : am_T := (⟨RX3, "change", "(III)V"⟩, prog_5_method_10_code, 7, none, 3, (1, 22, 4), [(0, .iload_n 1, 1), (1, .bipush 6, 2), (3, .imul, 1), (4, .istore 4, 2), (6, .iload 4, 2), (8, .aload_n 0, 1), (9, .getfield 23, 3), (12, .iload_n 1, 1), (13, .invokevirtual 97, 3), (16, .iadd, 1), (17, .istore 5, 2), (19, .iload 4, 2), (21, .istore 6, 2), (23, .iload 6, 2), (25, .iload 5, 2), (27, .if_icmp .ge 32, 3), (30, .aload_n 0, 1), (31, .getfield 26, 3), (34, .iload 6, 2), (36, .invokevirtual 97, 3), (39, .iload_n 2, 1), (40, .if_icmp .ne 13, 3), (43, .aload_n 0, 1), (44, .getfield 26, 3), (47, .iload 6, 2), (49, .iload_n 3, 1), (50, .invokevirtual 90, 3), (53, .iinc 6 1, 3), (56, .goto (-33), 3), (59, .return_, 1)])
def t_Law_arrange : am_T := (⟨RX3, "arrange", "()V"⟩, prog_5_method_11_code, 4, none, 3, (1, 22, 1), [(0, .aload_n 0, 1), (1, .iconst 0, 1), (2, .putfield 115, 3), (5, .iconst 0, 1), (6, .istore_n 1, 1), (7, .iload_n 1, 1), (8, .bipush 40, 2), (10, .if_icmp .ge 95, 3), (13, .aload_n 0, 1), (14, .getfield 14, 3), (17, .iload_n 1, 1), (18, .invokevirtual 97, 3), (21, .istore_n 2, 1), (22, .iload_n 2, 1), (23, .ifCond .eq 76, 3), (26, .aload_n 0, 1), (27, .getfield 115, 3), (30, .istore_n 3, 1), (31, .iload_n 3, 1), (32, .ifCond .le 48, 3), (35, .aload_n 0, 1), (36, .getfield 14, 3), (39, .aload_n 0, 1), (40, .getfield 29, 3), (43, .iload_n 3, 1), (44, .iconst 1, 1), (45, .isub, 1), (46, .invokevirtual 97, 3), (49, .invokevirtual 97, 3), (52, .iload_n 2, 1), (53, .if_icmp .le 27, 3), (56, .aload_n 0, 1), (57, .getfield 29, 3), (60, .iload_n 3, 1), (61, .aload_n 0, 1), (62, .getfield 29, 3), (65, .iload_n 3, 1), (66, .iconst 1, 1), (67, .isub, 1), (68, .invokevirtual 97, 3), (71, .invokevirtual 90, 3), (74, .iinc 3 (-1), 3), (77, .goto (-46), 3), (80, .aload_n 0, 1), (81, .getfield 29, 3), (84, .iload_n 3, 1), (85, .iload_n 1, 1), (86, .invokevirtual 90, 3), (89, .aload_n 0, 1), (90, .dup, 1), (91, .getfield 115, 3), (94, .iconst 1, 1), (95, .iadd, 1), (96, .putfield 115, 3), (99, .iinc 1 1, 3), (102, .goto (-95), 3), (105, .return_, 1)])
def t_SB_amendmentPart : am_T := (⟨RX8, "amendmentPart", "(II)I"⟩, prog_1_method_11_code, 3, (some .int), 8, (3, 66, 3), [(0, .iload_n 2, 1), (1, .tableswitch 62 0 2 #[27, 36, 53], 27), (28, .aload_n 0, 1), (29, .getfield 28, 3), (32, .iload_n 1, 1), (33, .invokevirtual 112, 3), (36, .ireturn, 1), (37, .aload_n 0, 1), (38, .getfield 28, 3), (41, .iload_n 1, 1), (42, .invokevirtual 103, 3), (45, .ifCond .eq 7, 3), (48, .iconst 1, 1), (49, .goto 4, 3), (52, .iconst 0, 1), (53, .ireturn, 1), (54, .aload_n 0, 1), (55, .getfield 28, 3), (58, .iload_n 1, 1), (59, .invokevirtual 135, 3), (62, .ireturn, 1), (63, .aload_n 0, 1), (64, .getfield 42, 3), (67, .aload_n 0, 1), (68, .getfield 28, 3), (71, .iload_n 1, 1), (72, .invokevirtual 138, 3), (75, .aload_n 0, 1), (76, .getfield 28, 3), (79, .iload_n 1, 1), (80, .iconst 1, 1), (81, .iadd, 1), (82, .invokevirtual 138, 3), (85, .invokevirtual 141, 3), (88, .ireturn, 1)])
def t_Amd_operationsOf : am_T := (⟨RX0, "operationsOf", "(I)I"⟩, prog_2_method_11_code, 2, (some .int), 0, (2, 42, 2), [(0, .aload_n 0, 1), (1, .iload_n 1, 1), (2, .iconst 1, 1), (3, .iadd, 1), (4, .invokevirtual 28, 3), (7, .aload_n 0, 1), (8, .iload_n 1, 1), (9, .invokevirtual 28, 3), (12, .isub, 1), (13, .ireturn, 1)])
def t_Law_effective : am_T := (⟨RX3, "effective", "(II)I"⟩, prog_5_method_25_code, 5, (some .int), 3, (2, 42, 3), [(0, .iconst 0, 1), (1, .istore_n 3, 1), (2, .iload_n 1, 1), (3, .istore 4, 2), (5, .iload 4, 2), (7, .iload_n 2, 1), (8, .if_icmp .ge 21, 3), (11, .aload_n 0, 1), (12, .iload 4, 2), (14, .invokevirtual 129, 3), (17, .ifCond .ne 6, 3), (20, .iinc 3 1, 3), (23, .iinc 4 1, 3), (26, .goto (-21), 3), (29, .iload_n 3, 1), (30, .ireturn, 1)])
def t_Law_status : am_T := (⟨RX3, "status", "(I)I"⟩, prog_5_method_23_code, 2, (some .int), 3, (1, 21, 2), [(0, .aload_n 0, 1), (1, .getfield 32, 3), (4, .iload_n 1, 1), (5, .invokevirtual 97, 3), (8, .ireturn, 1)])
def t_SB_operation : am_T := (⟨RX8, "operation", "(III)I"⟩, prog_1_method_12_code, 4, (some .int), 8, (7, 164, 4), [(0, .aload_n 0, 1), (1, .getfield 28, 3), (4, .iload_n 1, 1), (5, .iload_n 2, 1), (6, .invokevirtual 144, 3), (9, .ifCond .eq 12, 3), (12, .iload_n 3, 1), (13, .bipush 8, 2), (15, .invokestatic 56, 3), (18, .ifCond .ne 6, 3), (21, .bipush (-2), 2), (23, .ireturn, 1), (24, .aload_n 0, 1), (25, .invokevirtual 128, 3), (28, .aload_n 0, 1), (29, .aload_n 0, 1), (30, .getfield 28, 3), (33, .iload_n 1, 1), (34, .invokevirtual 138, 3), (37, .iload_n 2, 1), (38, .iadd, 1), (39, .iload_n 3, 1), (40, .invokevirtual 147, 3), (43, .ireturn, 1)])
def t_Amd_hasOperation : am_T := (⟨RX0, "hasOperation", "(II)Z"⟩, prog_2_method_13_code, 3, (some .boolean), 0, (3, 63, 3), [(0, .aload_n 0, 1), (1, .iload_n 1, 1), (2, .invokevirtual 35, 3), (5, .ifCond .eq 20, 3), (8, .iload_n 2, 1), (9, .ifCond .lt 16, 3), (12, .iload_n 2, 1), (13, .aload_n 0, 1), (14, .iload_n 1, 1), (15, .invokevirtual 39, 3), (18, .if_icmp .ge 7, 3), (21, .iconst 1, 1), (22, .goto 4, 3), (25, .iconst 0, 1), (26, .ireturn, 1)])
def t_SB_operationPart : am_T := (⟨RX8, "operationPart", "(II)I"⟩, prog_1_method_13_code, 3, (some .int), 8, (2, 43, 3), [(0, .iload_n 2, 1), (1, .tableswitch 56 6 8 #[27, 36, 45], 27), (28, .aload_n 0, 1), (29, .getfield 42, 3), (32, .iload_n 1, 1), (33, .invokevirtual 150, 3), (36, .ireturn, 1), (37, .aload_n 0, 1), (38, .getfield 42, 3), (41, .iload_n 1, 1), (42, .invokevirtual 153, 3), (45, .ireturn, 1), (46, .aload_n 0, 1), (47, .getfield 28, 3), (50, .iload_n 1, 1), (51, .bipush 6, 2), (53, .invokevirtual 156, 3), (56, .ireturn, 1), (57, .aload_n 0, 1), (58, .getfield 28, 3), (61, .iload_n 1, 1), (62, .iload_n 2, 1), (63, .invokevirtual 156, 3), (66, .ireturn, 1)])
def t_Law_affected : am_T := (⟨RX3, "affected", "(I)I"⟩, prog_5_method_24_code, 2, (some .int), 3, (1, 21, 2), [(0, .aload_n 0, 1), (1, .getfield 35, 3), (4, .iload_n 1, 1), (5, .invokevirtual 97, 3), (8, .ireturn, 1)])
def t_SB_word : am_T := (⟨RX8, "word", "(III)I"⟩, prog_1_method_14_code, 5, (some .int), 8, (4, 85, 4), [(0, .aload_n 0, 1), (1, .getfield 28, 3), (4, .iload_n 1, 1), (5, .iload_n 2, 1), (6, .invokevirtual 144, 3), (9, .ifCond .ne 6, 3), (12, .bipush (-2), 2), (14, .ireturn, 1), (15, .aload_n 0, 1), (16, .getfield 28, 3), (19, .iload_n 1, 1), (20, .invokevirtual 138, 3), (23, .iload_n 2, 1), (24, .iadd, 1), (25, .istore 4, 2), (27, .iload_n 3, 1), (28, .ifCond .lt 17, 3), (31, .iload_n 3, 1), (32, .aload_n 0, 1), (33, .getfield 28, 3), (36, .iload 4, 2), (38, .iconst 5, 1), (39, .invokevirtual 156, 3), (42, .if_icmp .lt 6, 3), (45, .bipush (-2), 2), (47, .ireturn, 1), (48, .aload_n 0, 1), (49, .getfield 28, 3), (52, .iload 4, 2), (54, .bipush 7, 2), (56, .iload_n 3, 1), (57, .iadd, 1), (58, .invokevirtual 156, 3), (61, .ireturn, 1)])
def t_SB_clauses : am_T := (⟨RX8, "clauses", "(II)I"⟩, prog_1_method_15_code, 3, (some .int), 8, (7, 166, 3), [(0, .iload_n 1, 1), (1, .iload_n 2, 1), (2, .invokestatic 159, 3), (5, .ifCond .ne 6, 3), (8, .bipush (-2), 2), (10, .ireturn, 1), (11, .aload_n 0, 1), (12, .iload_n 1, 1), (13, .iload_n 2, 1), (14, .invokevirtual 162, 3), (17, .aload_n 0, 1), (18, .getfield 42, 3), (21, .invokevirtual 165, 3), (24, .ireturn, 1)])
def t_SB_isLaw : am_T := (⟨RX8, "isLaw", "(II)Z"⟩, prog_1_method_57_code, 2, (some .boolean), 8, (1, 21, 2), [(0, .iload_n 0, 1), (1, .sipush 9999, 3), (4, .invokestatic 56, 3), (7, .ifCond .eq 22, 3), (10, .iload_n 1, 1), (11, .iconst (-1), 1), (12, .if_icmp .eq 13, 3), (15, .iload_n 1, 1), (16, .sipush 9999, 3), (19, .invokestatic 56, 3), (22, .ifCond .eq 7, 3), (25, .iconst 1, 1), (26, .goto 4, 3), (29, .iconst 0, 1), (30, .ireturn, 1)])
def t_SB_consolidate : am_T := (⟨RX8, "consolidate", "(II)V"⟩, prog_1_method_54_code, 3, none, 8, (6, 144, 3), [(0, .aload_n 0, 1), (1, .getfield 42, 3), (4, .aload_n 0, 1), (5, .getfield 28, 3), (8, .iload_n 1, 1), (9, .iload_n 2, 1), (10, .aload_n 0, 1), (11, .getfield 28, 3), (14, .invokevirtual 106, 3), (17, .invokevirtual 217, 3), (20, .return_, 1)])
def t_Law_size : am_T := (⟨RX3, "size", "()I"⟩, prog_5_method_12_code, 1, (some .int), 3, (0, 0, 1), [(0, .aload_n 0, 1), (1, .getfield 115, 3), (4, .ireturn, 1)])
def t_SB_clause : am_T := (⟨RX8, "clause", "(IIII)I"⟩, prog_1_method_16_code, 5, (some .int), 8, (7, 166, 5), [(0, .iload_n 1, 1), (1, .iload_n 2, 1), (2, .invokestatic 159, 3), (5, .ifCond .eq 12, 3), (8, .iload 4, 2), (10, .iconst 3, 1), (11, .invokestatic 56, 3), (14, .ifCond .ne 6, 3), (17, .bipush (-2), 2), (19, .ireturn, 1), (20, .aload_n 0, 1), (21, .iload_n 1, 1), (22, .iload_n 2, 1), (23, .invokevirtual 162, 3), (26, .iload_n 3, 1), (27, .ifCond .lt 14, 3), (30, .iload_n 3, 1), (31, .aload_n 0, 1), (32, .getfield 42, 3), (35, .invokevirtual 165, 3), (38, .if_icmp .lt 8, 3), (41, .bipush (-2), 2), (43, .goto 17, 3), (46, .aload_n 0, 1), (47, .aload_n 0, 1), (48, .getfield 42, 3), (51, .iload_n 3, 1), (52, .invokevirtual 166, 3), (55, .iload 4, 2), (57, .invokevirtual 169, 3), (60, .ireturn, 1)])
def t_Law_at : am_T := (⟨RX3, "at", "(I)I"⟩, prog_5_method_13_code, 2, (some .int), 3, (1, 21, 2), [(0, .aload_n 0, 1), (1, .getfield 29, 3), (4, .iload_n 1, 1), (5, .invokevirtual 97, 3), (8, .ireturn, 1)])
def t_SB_clausePart : am_T := (⟨RX8, "clausePart", "(II)I"⟩, prog_1_method_17_code, 3, (some .int), 8, (2, 42, 3), [(0, .iload_n 2, 1), (1, .tableswitch 47 0 2 #[27, 36, 38], 27), (28, .aload_n 0, 1), (29, .getfield 42, 3), (32, .iload_n 1, 1), (33, .invokevirtual 172, 3), (36, .ireturn, 1), (37, .iload_n 1, 1), (38, .ireturn, 1), (39, .aload_n 0, 1), (40, .getfield 42, 3), (43, .iload_n 1, 1), (44, .invokevirtual 175, 3), (47, .ireturn, 1), (48, .aload_n 0, 1), (49, .getfield 42, 3), (52, .iload_n 1, 1), (53, .invokevirtual 178, 3), (56, .ireturn, 1)])
def t_Law_code : am_T := (⟨RX3, "code", "(I)I"⟩, prog_5_method_14_code, 2, (some .int), 3, (1, 21, 2), [(0, .aload_n 0, 1), (1, .getfield 14, 3), (4, .iload_n 1, 1), (5, .invokevirtual 97, 3), (8, .ireturn, 1)])
def t_Law_length : am_T := (⟨RX3, "length", "(I)I"⟩, prog_5_method_16_code, 2, (some .int), 3, (1, 21, 2), [(0, .aload_n 0, 1), (1, .getfield 23, 3), (4, .iload_n 1, 1), (5, .invokevirtual 97, 3), (8, .ireturn, 1)])
def t_Law_lastDay : am_T := (⟨RX3, "lastDay", "(I)I"⟩, prog_5_method_15_code, 2, (some .int), 3, (1, 21, 2), [(0, .aload_n 0, 1), (1, .getfield 20, 3), (4, .iload_n 1, 1), (5, .invokevirtual 97, 3), (8, .ireturn, 1)])
def t_SB_textWord : am_T := (⟨RX8, "textWord", "(IIII)I"⟩, prog_1_method_18_code, 5, (some .int), 8, (7, 166, 5), [(0, .iload_n 1, 1), (1, .iload_n 2, 1), (2, .invokestatic 159, 3), (5, .ifCond .ne 6, 3), (8, .bipush (-2), 2), (10, .ireturn, 1), (11, .aload_n 0, 1), (12, .iload_n 1, 1), (13, .iload_n 2, 1), (14, .invokevirtual 162, 3), (17, .iload_n 3, 1), (18, .ifCond .lt 39, 3), (21, .iload_n 3, 1), (22, .aload_n 0, 1), (23, .getfield 42, 3), (26, .invokevirtual 165, 3), (29, .if_icmp .ge 28, 3), (32, .iload 4, 2), (34, .ifCond .lt 23, 3), (37, .iload 4, 2), (39, .aload_n 0, 1), (40, .getfield 42, 3), (43, .aload_n 0, 1), (44, .getfield 42, 3), (47, .iload_n 3, 1), (48, .invokevirtual 166, 3), (51, .invokevirtual 175, 3), (54, .if_icmp .lt 6, 3), (57, .bipush (-2), 2), (59, .ireturn, 1), (60, .aload_n 0, 1), (61, .aload_n 0, 1), (62, .getfield 42, 3), (65, .iload_n 3, 1), (66, .invokevirtual 166, 3), (69, .iload 4, 2), (71, .invokevirtual 181, 3), (74, .ireturn, 1)])
def t_SB_presentWord : am_T := (⟨RX8, "presentWord", "(II)I"⟩, prog_1_method_19_code, 5, (some .int), 8, (2, 43, 3), [(0, .aload_n 0, 1), (1, .getfield 42, 3), (4, .iload_n 1, 1), (5, .iload_n 2, 1), (6, .invokevirtual 184, 3), (9, .istore_n 3, 1), (10, .iload_n 3, 1), (11, .sipush 1000, 3), (14, .if_icmp .ge 5, 3), (17, .iload_n 3, 1), (18, .ireturn, 1), (19, .aload_n 0, 1), (20, .getfield 42, 3), (23, .iload_n 3, 1), (24, .sipush 1000, 3), (27, .isub, 1), (28, .invokevirtual 172, 3), (31, .istore 4, 2), (33, .iload 4, 2), (35, .ifCond .ne 8, 3), (38, .bipush (-5), 2), (40, .goto 9, 3), (43, .sipush 1000, 3), (46, .iload 4, 2), (48, .iadd, 1), (49, .ireturn, 1)])
def t_Law_said : am_T := (⟨RX3, "said", "(II)I"⟩, prog_5_method_17_code, 3, (some .int), 3, (1, 21, 3), [(0, .aload_n 0, 1), (1, .getfield 26, 3), (4, .iload_n 1, 1), (5, .bipush 6, 2), (7, .imul, 1), (8, .iload_n 2, 1), (9, .iadd, 1), (10, .invokevirtual 97, 3), (13, .ireturn, 1)])
def t_SB_find : am_T := (⟨RX8, "find", "(III)I"⟩, prog_1_method_20_code, 4, (some .int), 8, (7, 166, 4), [(0, .iload_n 1, 1), (1, .iload_n 2, 1), (2, .invokestatic 159, 3), (5, .ifCond .eq 10, 3), (8, .iload_n 3, 1), (9, .invokestatic 187, 3), (12, .ifCond .ne 6, 3), (15, .bipush (-2), 2), (17, .ireturn, 1), (18, .aload_n 0, 1), (19, .iload_n 1, 1), (20, .iload_n 2, 1), (21, .invokevirtual 162, 3), (24, .aload_n 0, 1), (25, .getfield 42, 3), (28, .iload_n 3, 1), (29, .invokevirtual 190, 3), (32, .ireturn, 1)])
def t_SB_isCode : am_T := (⟨RX8, "isCode", "(I)Z"⟩, prog_1_method_59_code, 4, (some .boolean), 8, (0, 0, 1), [(0, .iload_n 0, 1), (1, .sipush 729, 3), (4, .idiv, 1), (5, .istore_n 1, 1), (6, .iload_n 0, 1), (7, .sipush 729, 3), (10, .irem, 1), (11, .bipush 27, 2), (13, .idiv, 1), (14, .istore_n 2, 1), (15, .iload_n 0, 1), (16, .bipush 27, 2), (18, .irem, 1), (19, .istore_n 3, 1), (20, .iload_n 1, 1), (21, .iconst 1, 1), (22, .if_icmp .lt 22, 3), (25, .iload_n 1, 1), (26, .sipush 999, 3), (29, .if_icmp .gt 15, 3), (32, .iload_n 2, 1), (33, .ifCond .gt 7, 3), (36, .iload_n 3, 1), (37, .ifCond .ne 7, 3), (40, .iconst 1, 1), (41, .goto 4, 3), (44, .iconst 0, 1), (45, .ireturn, 1)])
def t_Law_indexOf : am_T := (⟨RX3, "indexOf", "(I)I"⟩, prog_5_method_19_code, 3, (some .int), 3, (2, 42, 2), [(0, .iconst 0, 1), (1, .istore_n 2, 1), (2, .iload_n 2, 1), (3, .aload_n 0, 1), (4, .getfield 115, 3), (7, .if_icmp .ge 24, 3), (10, .aload_n 0, 1), (11, .aload_n 0, 1), (12, .iload_n 2, 1), (13, .invokevirtual 120, 3), (16, .invokevirtual 123, 3), (19, .iload_n 1, 1), (20, .if_icmp .ne 5, 3), (23, .iload_n 2, 1), (24, .ireturn, 1), (25, .iinc 2 1, 3), (28, .goto (-26), 3), (31, .iconst (-1), 1), (32, .ireturn, 1)])
def t_SB_print : am_T := (⟨RX8, "print", "(II)I"⟩, prog_1_method_21_code, 4, (some .int), 8, (7, 166, 3), [(0, .iload_n 1, 1), (1, .iload_n 2, 1), (2, .invokestatic 159, 3), (5, .ifCond .ne 6, 3), (8, .bipush (-2), 2), (10, .ireturn, 1), (11, .aload_n 0, 1), (12, .iload_n 1, 1), (13, .iload_n 2, 1), (14, .invokevirtual 162, 3), (17, .aload_n 0, 1), (18, .getfield 21, 3), (21, .invokevirtual 70, 3), (24, .iconst 0, 1), (25, .istore_n 3, 1), (26, .iload_n 3, 1), (27, .aload_n 0, 1), (28, .getfield 42, 3), (31, .invokevirtual 165, 3), (34, .if_icmp .ge 21, 3), (37, .aload_n 0, 1), (38, .aload_n 0, 1), (39, .getfield 42, 3), (42, .iload_n 3, 1), (43, .invokevirtual 166, 3), (46, .invokevirtual 193, 3), (49, .iinc 3 1, 3), (52, .goto (-26), 3), (55, .aload_n 0, 1), (56, .getfield 21, 3), (59, .invokevirtual 196, 3), (62, .ireturn, 1)])
def t_SB_printClause : am_T := (⟨RX8, "printClause", "(I)V"⟩, prog_1_method_22_code, 4, none, 8, (3, 67, 2), [(0, .aload_n 0, 1), (1, .getfield 21, 3), (4, .aload_n 0, 1), (5, .getfield 42, 3), (8, .iload_n 1, 1), (9, .invokevirtual 172, 3), (12, .invokevirtual 199, 3), (15, .iconst 0, 1), (16, .istore_n 2, 1), (17, .iload_n 2, 1), (18, .aload_n 0, 1), (19, .getfield 42, 3), (22, .iload_n 1, 1), (23, .invokevirtual 175, 3), (26, .if_icmp .ge 82, 3), (29, .aload_n 0, 1), (30, .getfield 21, 3), (33, .bipush 32, 2), (35, .invokevirtual 67, 3), (38, .aload_n 0, 1), (39, .iload_n 1, 1), (40, .iload_n 2, 1), (41, .invokevirtual 181, 3), (44, .istore_n 3, 1), (45, .iload_n 3, 1), (46, .bipush (-5), 2), (48, .if_icmp .ne 15, 3), (51, .aload_n 0, 1), (52, .getfield 21, 3), (55, .bipush 63, 2), (57, .invokevirtual 67, 3), (60, .goto 42, 3), (63, .iload_n 3, 1), (64, .sipush 1000, 3), (67, .if_icmp .lt 27, 3), (70, .aload_n 0, 1), (71, .getfield 21, 3), (74, .bipush 64, 2), (76, .invokevirtual 67, 3), (79, .aload_n 0, 1), (80, .getfield 21, 3), (83, .iload_n 3, 1), (84, .sipush 1000, 3), (87, .isub, 1), (88, .invokevirtual 199, 3), (91, .goto 11, 3), (94, .aload_n 0, 1), (95, .getfield 21, 3), (98, .iload_n 3, 1), (99, .invokevirtual 202, 3), (102, .iinc 2 1, 3), (105, .goto (-88), 3), (108, .aload_n 0, 1), (109, .getfield 21, 3), (112, .bipush 10, 2), (114, .invokevirtual 67, 3), (117, .return_, 1)])
def t_Pag_appendNumber : am_T := (⟨RX4, "appendNumber", "(I)V"⟩, prog_6_method_8_code, 4, none, 4, (2, 42, 2), [(0, .iload_n 1, 1), (1, .sipush 729, 3), (4, .irem, 1), (5, .bipush 27, 2), (7, .idiv, 1), (8, .istore_n 2, 1), (9, .iload_n 1, 1), (10, .bipush 27, 2), (12, .irem, 1), (13, .istore_n 3, 1), (14, .aload_n 0, 1), (15, .iload_n 1, 1), (16, .sipush 729, 3), (19, .idiv, 1), (20, .invokevirtual 32, 3), (23, .iload_n 2, 1), (24, .ifCond .le 13, 3), (27, .aload_n 0, 1), (28, .bipush 65, 2), (30, .iload_n 2, 1), (31, .iadd, 1), (32, .iconst 1, 1), (33, .isub, 1), (34, .invokevirtual 28, 3), (37, .iload_n 3, 1), (38, .ifCond .le 13, 3), (41, .aload_n 0, 1), (42, .bipush 65, 2), (44, .iload_n 3, 1), (45, .iadd, 1), (46, .iconst 1, 1), (47, .isub, 1), (48, .invokevirtual 28, 3), (51, .return_, 1)])
def t_Pag_appendInteger : am_T := (⟨RX4, "appendInteger", "(I)V"⟩, prog_6_method_7_code, 2, none, 4, (1, 21, 2), [(0, .iload_n 1, 1), (1, .bipush 100, 2), (3, .if_icmp .lt 14, 3), (6, .aload_n 0, 1), (7, .bipush 48, 2), (9, .iload_n 1, 1), (10, .bipush 100, 2), (12, .idiv, 1), (13, .iadd, 1), (14, .invokevirtual 28, 3), (17, .iload_n 1, 1), (18, .bipush 10, 2), (20, .if_icmp .lt 17, 3), (23, .aload_n 0, 1), (24, .bipush 48, 2), (26, .iload_n 1, 1), (27, .bipush 10, 2), (29, .idiv, 1), (30, .bipush 10, 2), (32, .irem, 1), (33, .iadd, 1), (34, .invokevirtual 28, 3), (37, .aload_n 0, 1), (38, .bipush 48, 2), (40, .iload_n 1, 1), (41, .bipush 10, 2), (43, .irem, 1), (44, .iadd, 1), (45, .invokevirtual 28, 3), (48, .return_, 1)])
def t_Pag_written : am_T := (⟨RX4, "written", "()I"⟩, prog_6_method_3_code, 1, (some .int), 4, (0, 0, 1), [(0, .aload_n 0, 1), (1, .getfield 21, 3), (4, .ireturn, 1)])
def t_SB_printed : am_T := (⟨RX8, "printed", "(I)I"⟩, prog_1_method_23_code, 2, (some .int), 8, (1, 21, 2), [(0, .iload_n 1, 1), (1, .ifCond .ge 8, 3), (4, .bipush (-2), 2), (6, .goto 11, 3), (9, .aload_n 0, 1), (10, .getfield 21, 3), (13, .iload_n 1, 1), (14, .invokevirtual 205, 3), (17, .ireturn, 1)])
def t_SB_history : am_T := (⟨RX8, "history", "(III)I"⟩, prog_1_method_24_code, 6, (some .int), 8, (7, 164, 4), [(0, .aload_n 0, 1), (1, .iload_n 1, 1), (2, .invokevirtual 208, 3), (5, .ifCond .eq 15, 3), (8, .iload_n 2, 1), (9, .ifCond .lt 11, 3), (12, .iload_n 3, 1), (13, .iconst 2, 1), (14, .invokestatic 56, 3), (17, .ifCond .ne 6, 3), (20, .bipush (-2), 2), (22, .ireturn, 1), (23, .aload_n 0, 1), (24, .invokevirtual 128, 3), (27, .aload_n 0, 1), (28, .getfield 42, 3), (31, .iload_n 1, 1), (32, .iload_n 2, 1), (33, .invokevirtual 211, 3), (36, .istore 4, 2), (38, .iload 4, 2), (40, .iconst (-1), 1), (41, .if_icmp .ne 5, 3), (44, .iconst (-1), 1), (45, .ireturn, 1), (46, .aload_n 0, 1), (47, .getfield 28, 3), (50, .iload 4, 2), (52, .invokevirtual 214, 3), (55, .istore 5, 2), (57, .iload_n 3, 1), (58, .lookupswitch 47 #[(0, 26), (1, 36)], 26), (84, .aload_n 0, 1), (85, .getfield 28, 3), (88, .iload 5, 2), (90, .invokevirtual 112, 3), (93, .ireturn, 1), (94, .aload_n 0, 1), (95, .getfield 28, 3), (98, .iload 4, 2), (100, .iconst 0, 1), (101, .invokevirtual 156, 3), (104, .ireturn, 1), (105, .iload 5, 2), (107, .ireturn, 1)])
def t_SB_isIdentity : am_T := (⟨RX8, "isIdentity", "(I)Z"⟩, prog_1_method_58_code, 2, (some .boolean), 8, (2, 41, 2), [(0, .iload_n 1, 1), (1, .ifCond .lt 18, 3), (4, .iload_n 1, 1), (5, .aload_n 0, 1), (6, .getfield 28, 3), (9, .invokevirtual 304, 3), (12, .if_icmp .ge 7, 3), (15, .iconst 1, 1), (16, .goto 4, 3), (19, .iconst 0, 1), (20, .ireturn, 1)])
def t_Law_effectOn : am_T := (⟨RX3, "effectOn", "(II)I"⟩, prog_5_method_26_code, 6, (some .int), 3, (2, 42, 3), [(0, .iconst 0, 1), (1, .istore_n 3, 1), (2, .iconst 0, 1), (3, .istore 4, 2), (5, .iload 4, 2), (7, .aload_n 0, 1), (8, .getfield 47, 3), (11, .if_icmp .ge 41, 3), (14, .aload_n 0, 1), (15, .getfield 38, 3), (18, .iload 4, 2), (20, .invokevirtual 97, 3), (23, .istore 5, 2), (25, .aload_n 0, 1), (26, .iload 5, 2), (28, .invokevirtual 132, 3), (31, .iload_n 1, 1), (32, .if_icmp .ne 14, 3), (35, .iload_n 3, 1), (36, .iload_n 2, 1), (37, .if_icmp .ne 6, 3), (40, .iload 5, 2), (42, .ireturn, 1), (43, .iinc 3 1, 3), (46, .iinc 4 1, 3), (49, .goto (-44), 3), (52, .iconst (-1), 1), (53, .ireturn, 1)])
def t_Amd_amendmentOf : am_T := (⟨RX0, "amendmentOf", "(I)I"⟩, prog_2_method_15_code, 3, (some .int), 0, (2, 42, 2), [(0, .iconst 0, 1), (1, .istore_n 2, 1), (2, .iload_n 2, 1), (3, .aload_n 0, 1), (4, .invokevirtual 31, 3), (7, .if_icmp .ge 20, 3), (10, .aload_n 0, 1), (11, .iload_n 2, 1), (12, .iconst 1, 1), (13, .iadd, 1), (14, .invokevirtual 28, 3), (17, .iload_n 1, 1), (18, .if_icmp .gt 9, 3), (21, .iinc 2 1, 3), (24, .goto (-22), 3), (27, .iload_n 2, 1), (28, .ireturn, 1)])
def t_SB_difference : am_T := (⟨RX8, "difference", "(III)I"⟩, prog_1_method_25_code, 6, (some .int), 8, (7, 166, 4), [(0, .iload_n 1, 1), (1, .sipush 9999, 3), (4, .invokestatic 56, 3), (7, .ifCond .eq 21, 3), (10, .iload_n 2, 1), (11, .sipush 9999, 3), (14, .invokestatic 56, 3), (17, .ifCond .eq 11, 3), (20, .iload_n 3, 1), (21, .iconst 3, 1), (22, .invokestatic 56, 3), (25, .ifCond .ne 6, 3), (28, .bipush (-2), 2), (30, .ireturn, 1), (31, .aload_n 0, 1), (32, .iload_n 1, 1), (33, .iconst (-1), 1), (34, .invokevirtual 162, 3), (37, .aload_n 0, 1), (38, .getfield 46, 3), (41, .aload_n 0, 1), (42, .getfield 28, 3), (45, .iload_n 2, 1), (46, .iconst (-1), 1), (47, .aload_n 0, 1), (48, .getfield 28, 3), (51, .invokevirtual 106, 3), (54, .invokevirtual 217, 3), (57, .iconst 0, 1), (58, .istore 4, 2), (60, .iconst 0, 1), (61, .istore 5, 2), (63, .iload 5, 2), (65, .bipush 40, 2), (67, .if_icmp .ge 22, 3), (70, .aload_n 0, 1), (71, .iload 5, 2), (73, .iload_n 3, 1), (74, .invokevirtual 220, 3), (77, .ifCond .eq 6, 3), (80, .iinc 4 1, 3), (83, .iinc 5 1, 3), (86, .goto (-23), 3), (89, .iload 4, 2), (91, .ireturn, 1)])
def t_SB_differs : am_T := (⟨RX8, "differs", "(II)Z"⟩, prog_1_method_26_code, 6, (some .boolean), 8, (3, 66, 3), [(0, .aload_n 0, 1), (1, .getfield 42, 3), (4, .iload_n 1, 1), (5, .invokevirtual 172, 3), (8, .istore_n 3, 1), (9, .aload_n 0, 1), (10, .getfield 46, 3), (13, .iload_n 1, 1), (14, .invokevirtual 172, 3), (17, .istore 4, 2), (19, .iload_n 3, 1), (20, .ifCond .eq 12, 3), (23, .iload 4, 2), (25, .ifCond .eq 7, 3), (28, .iconst 1, 1), (29, .goto 4, 3), (32, .iconst 0, 1), (33, .istore 5, 2), (35, .iload_n 2, 1), (36, .tableswitch 75 0 2 #[28, 43, 58], 28), (64, .iload_n 3, 1), (65, .ifCond .ne 12, 3), (68, .iload 4, 2), (70, .ifCond .eq 7, 3), (73, .iconst 1, 1), (74, .goto 4, 3), (77, .iconst 0, 1), (78, .ireturn, 1), (79, .iload_n 3, 1), (80, .ifCond .eq 12, 3), (83, .iload 4, 2), (85, .ifCond .ne 7, 3), (88, .iconst 1, 1), (89, .goto 4, 3), (92, .iconst 0, 1), (93, .ireturn, 1), (94, .iload 5, 2), (96, .ifCond .eq 13, 3), (99, .iload_n 3, 1), (100, .iload 4, 2), (102, .if_icmp .eq 7, 3), (105, .iconst 1, 1), (106, .goto 4, 3), (109, .iconst 0, 1), (110, .ireturn, 1), (111, .iload 5, 2), (113, .ifCond .eq 22, 3), (116, .aload_n 0, 1), (117, .getfield 42, 3), (120, .aload_n 0, 1), (121, .getfield 46, 3), (124, .iload_n 1, 1), (125, .invokevirtual 223, 3), (128, .ifCond .ne 7, 3), (131, .iconst 1, 1), (132, .goto 4, 3), (135, .iconst 0, 1), (136, .ireturn, 1)])
def t_Law_saysTheSame : am_T := (⟨RX3, "saysTheSame", "(LStatuteBook$Law;I)Z"⟩, prog_5_method_22_code, 4, (some .boolean), 3, (2, 43, 3), [(0, .aload_n 0, 1), (1, .iload_n 2, 1), (2, .invokevirtual 126, 3), (5, .aload_n 1, 1), (6, .iload_n 2, 1), (7, .invokevirtual 126, 3), (10, .if_icmp .eq 5, 3), (13, .iconst 0, 1), (14, .ireturn, 1), (15, .iconst 0, 1), (16, .istore_n 3, 1), (17, .iload_n 3, 1), (18, .aload_n 0, 1), (19, .iload_n 2, 1), (20, .invokevirtual 126, 3), (23, .if_icmp .ge 26, 3), (26, .aload_n 0, 1), (27, .iload_n 2, 1), (28, .iload_n 3, 1), (29, .invokevirtual 117, 3), (32, .aload_n 1, 1), (33, .iload_n 2, 1), (34, .iload_n 3, 1), (35, .invokevirtual 117, 3), (38, .if_icmp .eq 5, 3), (41, .iconst 0, 1), (42, .ireturn, 1), (43, .iinc 3 1, 3), (46, .goto (-29), 3), (49, .iconst 1, 1), (50, .ireturn, 1)])
def t_SB_containing : am_T := (⟨RX8, "containing", "(II)I"⟩, prog_1_method_27_code, 3, (some .int), 8, (7, 166, 3), [(0, .iload_n 1, 1), (1, .sipush 9999, 3), (4, .invokestatic 56, 3), (7, .ifCond .eq 13, 3), (10, .iload_n 2, 1), (11, .sipush 999, 3), (14, .invokestatic 56, 3), (17, .ifCond .ne 6, 3), (20, .bipush (-2), 2), (22, .ireturn, 1), (23, .aload_n 0, 1), (24, .iload_n 1, 1), (25, .iconst (-1), 1), (26, .invokevirtual 162, 3), (29, .aload_n 0, 1), (30, .getfield 42, 3), (33, .iload_n 2, 1), (34, .invokevirtual 227, 3), (37, .ireturn, 1)])
def t_Law_clausesWith : am_T := (⟨RX3, "clausesWith", "(I)I"⟩, prog_5_method_21_code, 4, (some .int), 3, (2, 46, 2), [(0, .iconst 0, 1), (1, .istore_n 2, 1), (2, .iconst 0, 1), (3, .istore_n 3, 1), (4, .iload_n 3, 1), (5, .aload_n 0, 1), (6, .getfield 115, 3), (9, .if_icmp .ge 25, 3), (12, .aload_n 0, 1), (13, .aload_n 0, 1), (14, .iload_n 3, 1), (15, .invokevirtual 120, 3), (18, .iload_n 1, 1), (19, .invokevirtual 100, 3), (22, .ifCond .eq 6, 3), (25, .iinc 2 1, 3), (28, .iinc 3 1, 3), (31, .goto (-27), 3), (34, .iload_n 2, 1), (35, .ireturn, 1)])
def t_SB_references : am_T := (⟨RX8, "references", "(II)I"⟩, prog_1_method_28_code, 5, (some .int), 8, (7, 166, 3), [(0, .iload_n 1, 1), (1, .sipush 9999, 3), (4, .invokestatic 56, 3), (7, .ifCond .eq 16, 3), (10, .iload_n 2, 1), (11, .iconst (-1), 1), (12, .if_icmp .eq 14, 3), (15, .aload_n 0, 1), (16, .iload_n 2, 1), (17, .invokevirtual 208, 3), (20, .ifCond .ne 6, 3), (23, .bipush (-2), 2), (25, .ireturn, 1), (26, .aload_n 0, 1), (27, .iload_n 1, 1), (28, .iconst (-1), 1), (29, .invokevirtual 162, 3), (32, .iconst 0, 1), (33, .istore_n 3, 1), (34, .iconst 0, 1), (35, .istore 4, 2), (37, .iload 4, 2), (39, .aload_n 0, 1), (40, .getfield 42, 3), (43, .invokevirtual 165, 3), (46, .if_icmp .ge 26, 3), (49, .iload_n 3, 1), (50, .aload_n 0, 1), (51, .aload_n 0, 1), (52, .getfield 42, 3), (55, .iload 4, 2), (57, .invokevirtual 166, 3), (60, .iload_n 2, 1), (61, .invokevirtual 230, 3), (64, .iadd, 1), (65, .istore_n 3, 1), (66, .iinc 4 1, 3), (69, .goto (-32), 3), (72, .iload_n 3, 1), (73, .ireturn, 1)])
def t_SB_referencesFrom : am_T := (⟨RX8, "referencesFrom", "(II)I"⟩, prog_1_method_29_code, 7, (some .int), 8, (3, 66, 3), [(0, .iconst 0, 1), (1, .istore_n 3, 1), (2, .iconst 0, 1), (3, .istore 4, 2), (5, .iload 4, 2), (7, .aload_n 0, 1), (8, .getfield 42, 3), (11, .iload_n 1, 1), (12, .invokevirtual 175, 3), (15, .if_icmp .ge 68, 3), (18, .aload_n 0, 1), (19, .getfield 42, 3), (22, .iload_n 1, 1), (23, .iload 4, 2), (25, .invokevirtual 233, 3), (28, .istore 5, 2), (30, .iload 5, 2), (32, .iconst (-1), 1), (33, .if_icmp .eq 19, 3), (36, .aload_n 0, 1), (37, .getfield 42, 3), (40, .iload 5, 2), (42, .invokevirtual 172, 3), (45, .ifCond .ne 7, 3), (48, .iconst 1, 1), (49, .goto 4, 3), (52, .iconst 0, 1), (53, .istore 6, 2), (55, .iload_n 2, 1), (56, .iconst (-1), 1), (57, .if_icmp .ne 11, 3), (60, .iload 6, 2), (62, .ifCond .eq 15, 3), (65, .goto 9, 3), (68, .iload 5, 2), (70, .iload_n 2, 1), (71, .if_icmp .ne 6, 3), (74, .iinc 3 1, 3), (77, .iinc 4 1, 3), (80, .goto (-75), 3), (83, .iload_n 3, 1), (84, .ireturn, 1)])
def t_Law_target : am_T := (⟨RX3, "target", "(II)I"⟩, prog_5_method_18_code, 4, (some .int), 3, (2, 43, 3), [(0, .aload_n 0, 1), (1, .iload_n 1, 1), (2, .iload_n 2, 1), (3, .invokevirtual 117, 3), (6, .istore_n 3, 1), (7, .iload_n 3, 1), (8, .sipush 1000, 3), (11, .if_icmp .lt 11, 3), (14, .iload_n 3, 1), (15, .sipush 1000, 3), (18, .isub, 1), (19, .goto 4, 3), (22, .iconst (-1), 1), (23, .ireturn, 1)])
def t_SB_reach : am_T := (⟨RX8, "reach", "(III)I"⟩, prog_1_method_30_code, 4, (some .int), 8, (7, 166, 4), [(0, .iload_n 1, 1), (1, .sipush 9999, 3), (4, .invokestatic 56, 3), (7, .ifCond .eq 19, 3), (10, .aload_n 0, 1), (11, .iload_n 2, 1), (12, .invokevirtual 208, 3), (15, .ifCond .eq 11, 3), (18, .iload_n 3, 1), (19, .iconst 2, 1), (20, .invokestatic 56, 3), (23, .ifCond .ne 6, 3), (26, .bipush (-2), 2), (28, .ireturn, 1), (29, .aload_n 0, 1), (30, .iload_n 1, 1), (31, .iconst (-1), 1), (32, .invokevirtual 162, 3), (35, .aload_n 0, 1), (36, .getfield 42, 3), (39, .iload_n 2, 1), (40, .invokevirtual 172, 3), (43, .ifCond .ne 6, 3), (46, .bipush (-3), 2), (48, .ireturn, 1), (49, .aload_n 0, 1), (50, .getfield 52, 3), (53, .aload_n 0, 1), (54, .getfield 42, 3), (57, .iload_n 2, 1), (58, .invokevirtual 236, 3), (61, .iload_n 3, 1), (62, .lookupswitch 42 #[(0, 26), (1, 34)], 26), (88, .aload_n 0, 1), (89, .getfield 52, 3), (92, .invokevirtual 240, 3), (95, .ireturn, 1), (96, .aload_n 0, 1), (97, .getfield 52, 3), (100, .invokevirtual 243, 3), (103, .ireturn, 1), (104, .aload_n 0, 1), (105, .getfield 52, 3), (108, .invokevirtual 246, 3), (111, .ifCond .eq 7, 3), (114, .iconst 1, 1), (115, .goto 4, 3), (118, .iconst 0, 1), (119, .ireturn, 1)])
def t_Wal_follow : am_T := (⟨RX7, "follow", "(LStatuteBook$Law;I)V"⟩, prog_9_method_2_code, 7, none, 7, (3, 66, 3), [(0, .aload_n 0, 1), (1, .getfield 14, 3), (4, .iconst (-1), 1), (5, .invokevirtual 23, 3), (8, .aload_n 0, 1), (9, .iconst 0, 1), (10, .putfield 26, 3), (13, .aload_n 0, 1), (14, .iconst 0, 1), (15, .putfield 30, 3), (18, .aload_n 0, 1), (19, .iload_n 2, 1), (20, .iconst 0, 1), (21, .invokevirtual 34, 3), (24, .iconst 0, 1), (25, .istore_n 3, 1), (26, .iload_n 3, 1), (27, .aload_n 0, 1), (28, .getfield 26, 3), (31, .if_icmp .ge 98, 3), (34, .iload_n 3, 1), (35, .bipush 40, 2), (37, .if_icmp .ge 92, 3), (40, .aload_n 0, 1), (41, .getfield 20, 3), (44, .iload_n 3, 1), (45, .invokevirtual 38, 3), (48, .istore 4, 2), (50, .iconst 0, 1), (51, .istore 5, 2), (53, .iload 5, 2), (55, .aload_n 1, 1), (56, .iload 4, 2), (58, .invokevirtual 42, 3), (61, .if_icmp .ge 62, 3), (64, .aload_n 1, 1), (65, .iload 4, 2), (67, .iload 5, 2), (69, .invokevirtual 47, 3), (72, .istore 6, 2), (74, .iload 6, 2), (76, .iload_n 2, 1), (77, .if_icmp .ne 8, 3), (80, .aload_n 0, 1), (81, .iconst 1, 1), (82, .putfield 30, 3), (85, .iload 6, 2), (87, .iconst (-1), 1), (88, .if_icmp .eq 29, 3), (91, .aload_n 1, 1), (92, .iload 6, 2), (94, .invokevirtual 51, 3), (97, .ifCond .eq 20, 3), (100, .aload_n 0, 1), (101, .iload 6, 2), (103, .aload_n 0, 1), (104, .getfield 14, 3), (107, .iload 4, 2), (109, .invokevirtual 38, 3), (112, .iconst 1, 1), (113, .iadd, 1), (114, .invokevirtual 34, 3), (117, .iinc 5 1, 3), (120, .goto (-67), 3), (123, .iinc 3 1, 3), (126, .goto (-100), 3), (129, .return_, 1)])
def t_Wal_meet : am_T := (⟨RX7, "meet", "(II)V"⟩, prog_9_method_3_code, 3, none, 7, (1, 22, 3), [(0, .aload_n 0, 1), (1, .getfield 14, 3), (4, .iload_n 1, 1), (5, .invokevirtual 38, 3), (8, .iconst (-1), 1), (9, .if_icmp .ne 34, 3), (12, .aload_n 0, 1), (13, .getfield 14, 3), (16, .iload_n 1, 1), (17, .iload_n 2, 1), (18, .invokevirtual 54, 3), (21, .aload_n 0, 1), (22, .getfield 20, 3), (25, .aload_n 0, 1), (26, .getfield 26, 3), (29, .iload_n 1, 1), (30, .invokevirtual 54, 3), (33, .aload_n 0, 1), (34, .dup, 1), (35, .getfield 26, 3), (38, .iconst 1, 1), (39, .iadd, 1), (40, .putfield 26, 3), (43, .return_, 1)])
def t_Wal_reached : am_T := (⟨RX7, "reached", "()I"⟩, prog_9_method_4_code, 1, (some .int), 7, (0, 0, 1), [(0, .aload_n 0, 1), (1, .getfield 26, 3), (4, .ireturn, 1)])
def t_Wal_greatestDistance : am_T := (⟨RX7, "greatestDistance", "()I"⟩, prog_9_method_5_code, 1, (some .int), 7, (1, 21, 1), [(0, .aload_n 0, 1), (1, .getfield 14, 3), (4, .aload_n 0, 1), (5, .getfield 20, 3), (8, .aload_n 0, 1), (9, .getfield 26, 3), (12, .iconst 1, 1), (13, .isub, 1), (14, .invokevirtual 38, 3), (17, .invokevirtual 38, 3), (20, .ireturn, 1)])
def t_Wal_comesBack : am_T := (⟨RX7, "comesBack", "()Z"⟩, prog_9_method_6_code, 1, (some .boolean), 7, (0, 0, 1), [(0, .aload_n 0, 1), (1, .getfield 30, 3), (4, .ireturn, 1)])
def t_SB_tally : am_T := (⟨RX8, "tally", "(I)I"⟩, prog_1_method_31_code, 2, (some .int), 8, (7, 164, 2), [(0, .iload_n 1, 1), (1, .bipush 6, 2), (3, .invokestatic 56, 3), (6, .ifCond .ne 6, 3), (9, .bipush (-2), 2), (11, .ireturn, 1), (12, .aload_n 0, 1), (13, .invokevirtual 128, 3), (16, .aload_n 0, 1), (17, .iload_n 1, 1), (18, .invokevirtual 250, 3), (21, .ireturn, 1)])
def t_SB_tallyPart : am_T := (⟨RX8, "tallyPart", "(I)I"⟩, prog_1_method_32_code, 4, (some .int), 8, (5, 112, 2), [(0, .iload_n 1, 1), (1, .bipush 6, 2), (3, .if_icmp .ne 8, 3), (6, .aload_n 0, 1), (7, .invokevirtual 253, 3), (10, .ireturn, 1), (11, .iconst 0, 1), (12, .istore_n 2, 1), (13, .iconst 0, 1), (14, .istore_n 3, 1), (15, .iload_n 3, 1), (16, .aload_n 0, 1), (17, .getfield 28, 3), (20, .invokevirtual 256, 3), (23, .if_icmp .ge 24, 3), (26, .aload_n 0, 1), (27, .getfield 42, 3), (30, .iload_n 3, 1), (31, .invokevirtual 150, 3), (34, .iload_n 1, 1), (35, .if_icmp .ne 6, 3), (38, .iinc 2 1, 3), (41, .iinc 3 1, 3), (44, .goto (-29), 3), (47, .iload_n 2, 1), (48, .ireturn, 1)])
def t_SB_conflicts : am_T := (⟨RX8, "conflicts", "()I"⟩, prog_1_method_33_code, 4, (some .int), 8, (4, 89, 1), [(0, .iconst 0, 1), (1, .istore_n 1, 1), (2, .iconst 0, 1), (3, .istore_n 2, 1), (4, .iload_n 2, 1), (5, .aload_n 0, 1), (6, .getfield 28, 3), (9, .invokevirtual 256, 3), (12, .if_icmp .ge 42, 3), (15, .iload_n 2, 1), (16, .iconst 1, 1), (17, .iadd, 1), (18, .istore_n 3, 1), (19, .iload_n 3, 1), (20, .aload_n 0, 1), (21, .getfield 28, 3), (24, .invokevirtual 256, 3), (27, .if_icmp .ge 21, 3), (30, .aload_n 0, 1), (31, .iload_n 2, 1), (32, .iload_n 3, 1), (33, .invokevirtual 259, 3), (36, .ifCond .eq 6, 3), (39, .iinc 1 1, 3), (42, .iinc 3 1, 3), (45, .goto (-26), 3), (48, .iinc 2 1, 3), (51, .goto (-47), 3), (54, .iload_n 1, 1), (55, .ireturn, 1)])
def t_SB_clash : am_T := (⟨RX8, "clash", "(II)Z"⟩, prog_1_method_34_code, 6, (some .boolean), 8, (3, 64, 3), [(0, .aload_n 0, 1), (1, .getfield 42, 3), (4, .iload_n 1, 1), (5, .invokevirtual 153, 3), (8, .istore_n 3, 1), (9, .iload_n 3, 1), (10, .iconst (-1), 1), (11, .if_icmp .eq 15, 3), (14, .iload_n 3, 1), (15, .aload_n 0, 1), (16, .getfield 42, 3), (19, .iload_n 2, 1), (20, .invokevirtual 153, 3), (23, .if_icmp .eq 5, 3), (26, .iconst 0, 1), (27, .ireturn, 1), (28, .aload_n 0, 1), (29, .getfield 28, 3), (32, .iload_n 1, 1), (33, .invokevirtual 214, 3), (36, .istore 4, 2), (38, .aload_n 0, 1), (39, .getfield 28, 3), (42, .iload_n 2, 1), (43, .invokevirtual 214, 3), (46, .istore 5, 2), (48, .iload 4, 2), (50, .iload 5, 2), (52, .if_icmp .eq 28, 3), (55, .aload_n 0, 1), (56, .getfield 28, 3), (59, .iload 4, 2), (61, .invokevirtual 112, 3), (64, .aload_n 0, 1), (65, .getfield 28, 3), (68, .iload 5, 2), (70, .invokevirtual 112, 3), (73, .if_icmp .ne 7, 3), (76, .iconst 1, 1), (77, .goto 4, 3), (80, .iconst 0, 1), (81, .ireturn, 1)])
def t_SB_conflict : am_T := (⟨RX8, "conflict", "(II)I"⟩, prog_1_method_35_code, 6, (some .int), 8, (7, 164, 3), [(0, .iload_n 1, 1), (1, .ifCond .lt 11, 3), (4, .iload_n 2, 1), (5, .iconst 4, 1), (6, .invokestatic 56, 3), (9, .ifCond .ne 6, 3), (12, .bipush (-2), 2), (14, .ireturn, 1), (15, .aload_n 0, 1), (16, .invokevirtual 128, 3), (19, .iconst 0, 1), (20, .istore_n 3, 1), (21, .iconst 0, 1), (22, .istore 4, 2), (24, .iload 4, 2), (26, .aload_n 0, 1), (27, .getfield 28, 3), (30, .invokevirtual 256, 3), (33, .if_icmp .ge 62, 3), (36, .iload 4, 2), (38, .iconst 1, 1), (39, .iadd, 1), (40, .istore 5, 2), (42, .iload 5, 2), (44, .aload_n 0, 1), (45, .getfield 28, 3), (48, .invokevirtual 256, 3), (51, .if_icmp .ge 38, 3), (54, .aload_n 0, 1), (55, .iload 4, 2), (57, .iload 5, 2), (59, .invokevirtual 259, 3), (62, .ifCond .eq 21, 3), (65, .iload_n 3, 1), (66, .iload_n 1, 1), (67, .if_icmp .ne 13, 3), (70, .aload_n 0, 1), (71, .iload 4, 2), (73, .iload 5, 2), (75, .iload_n 2, 1), (76, .invokevirtual 262, 3), (79, .ireturn, 1), (80, .iinc 3 1, 3), (83, .iinc 5 1, 3), (86, .goto (-44), 3), (89, .iinc 4 1, 3), (92, .goto (-68), 3), (95, .iconst (-1), 1), (96, .ireturn, 1)])
def t_SB_conflictPart : am_T := (⟨RX8, "conflictPart", "(III)I"⟩, prog_1_method_36_code, 6, (some .int), 8, (3, 64, 4), [(0, .aload_n 0, 1), (1, .getfield 28, 3), (4, .iload_n 1, 1), (5, .invokevirtual 214, 3), (8, .istore 4, 2), (10, .aload_n 0, 1), (11, .getfield 28, 3), (14, .iload_n 2, 1), (15, .invokevirtual 214, 3), (18, .istore 5, 2), (20, .iload_n 3, 1), (21, .tableswitch 61 0 3 #[31, 34, 46, 49], 31), (52, .iload 4, 2), (54, .ireturn, 1), (55, .iload_n 1, 1), (56, .aload_n 0, 1), (57, .getfield 28, 3), (60, .iload 4, 2), (62, .invokevirtual 138, 3), (65, .isub, 1), (66, .ireturn, 1), (67, .iload 5, 2), (69, .ireturn, 1), (70, .iload_n 2, 1), (71, .aload_n 0, 1), (72, .getfield 28, 3), (75, .iload 5, 2), (77, .invokevirtual 138, 3), (80, .isub, 1), (81, .ireturn, 1), (82, .aload_n 0, 1), (83, .getfield 42, 3), (86, .iload_n 1, 1), (87, .invokevirtual 153, 3), (90, .ireturn, 1)])
def t_SB_effect : am_T := (⟨RX8, "effect", "(II)I"⟩, prog_1_method_37_code, 5, (some .int), 8, (7, 166, 3), [(0, .aload_n 0, 1), (1, .getfield 28, 3), (4, .iload_n 1, 1), (5, .invokevirtual 99, 3), (8, .ifCond .eq 13, 3), (11, .iload_n 2, 1), (12, .sipush 9999, 3), (15, .invokestatic 56, 3), (18, .ifCond .ne 6, 3), (21, .bipush (-2), 2), (23, .ireturn, 1), (24, .aload_n 0, 1), (25, .iload_n 2, 1), (26, .iconst (-1), 1), (27, .invokevirtual 162, 3), (30, .aload_n 0, 1), (31, .getfield 46, 3), (34, .aload_n 0, 1), (35, .getfield 28, 3), (38, .iload_n 2, 1), (39, .iconst (-1), 1), (40, .aload_n 0, 1), (41, .getfield 28, 3), (44, .invokevirtual 106, 3), (47, .iconst 1, 1), (48, .iload_n 1, 1), (49, .ishl, 1), (50, .ixor, 1), (51, .invokevirtual 217, 3), (54, .iconst 0, 1), (55, .istore_n 3, 1), (56, .iconst 0, 1), (57, .istore 4, 2), (59, .iload 4, 2), (61, .bipush 40, 2), (63, .if_icmp .ge 52, 3), (66, .aload_n 0, 1), (67, .iload 4, 2), (69, .iconst 0, 1), (70, .invokevirtual 220, 3), (73, .ifCond .ne 33, 3), (76, .aload_n 0, 1), (77, .iload 4, 2), (79, .iconst 1, 1), (80, .invokevirtual 220, 3), (83, .ifCond .ne 23, 3), (86, .aload_n 0, 1), (87, .iload 4, 2), (89, .iconst 2, 1), (90, .invokevirtual 220, 3), (93, .ifCond .ne 13, 3), (96, .aload_n 0, 1), (97, .iload 4, 2), (99, .iconst 3, 1), (100, .invokevirtual 220, 3), (103, .ifCond .eq 6, 3), (106, .iinc 3 1, 3), (109, .iinc 4 1, 3), (112, .goto (-53), 3), (115, .iload_n 3, 1), (116, .ireturn, 1)])
def t_SB_fewestRevocations : am_T := (⟨RX8, "fewestRevocations", "(II)I"⟩, prog_1_method_38_code, 6, (some .int), 8, (7, 167, 3), [(0, .iload_n 1, 1), (1, .sipush 9999, 3), (4, .invokestatic 56, 3), (7, .ifCond .eq 13, 3), (10, .iload_n 2, 1), (11, .sipush 999, 3), (14, .invokestatic 56, 3), (17, .ifCond .ne 6, 3), (20, .bipush (-2), 2), (22, .ireturn, 1), (23, .aload_n 0, 1), (24, .iload_n 1, 1), (25, .iload_n 2, 1), (26, .iconst 0, 1), (27, .invokevirtual 266, 3), (30, .ifCond .eq 5, 3), (33, .iconst 0, 1), (34, .ireturn, 1), (35, .iconst 0, 1), (36, .istore_n 3, 1), (37, .iload_n 3, 1), (38, .aload_n 0, 1), (39, .getfield 28, 3), (42, .invokevirtual 96, 3), (45, .if_icmp .ge 34, 3), (48, .aload_n 0, 1), (49, .iload_n 3, 1), (50, .iload_n 1, 1), (51, .invokevirtual 270, 3), (54, .ifCond .eq 19, 3), (57, .aload_n 0, 1), (58, .iload_n 1, 1), (59, .iload_n 2, 1), (60, .iconst 1, 1), (61, .iload_n 3, 1), (62, .ishl, 1), (63, .invokevirtual 266, 3), (66, .ifCond .eq 7, 3), (69, .iconst 1, 1), (70, .iload_n 3, 1), (71, .ishl, 1), (72, .ireturn, 1), (73, .iinc 3 1, 3), (76, .goto (-39), 3), (79, .iconst 1, 1), (80, .istore_n 3, 1), (81, .iload_n 3, 1), (82, .aload_n 0, 1), (83, .getfield 28, 3), (86, .invokevirtual 96, 3), (89, .if_icmp .ge 67, 3), (92, .iconst 0, 1), (93, .istore 4, 2), (95, .iload 4, 2), (97, .iload_n 3, 1), (98, .if_icmp .ge 52, 3), (101, .iconst 1, 1), (102, .iload_n 3, 1), (103, .ishl, 1), (104, .iconst 1, 1), (105, .iload 4, 2), (107, .ishl, 1), (108, .ior, 1), (109, .istore 5, 2), (111, .aload_n 0, 1), (112, .iload_n 3, 1), (113, .iload_n 1, 1), (114, .invokevirtual 270, 3), (117, .ifCond .eq 27, 3), (120, .aload_n 0, 1), (121, .iload 4, 2), (123, .iload_n 1, 1), (124, .invokevirtual 270, 3), (127, .ifCond .eq 17, 3), (130, .aload_n 0, 1), (131, .iload_n 1, 1), (132, .iload_n 2, 1), (133, .iload 5, 2), (135, .invokevirtual 266, 3), (138, .ifCond .eq 6, 3), (141, .iload 5, 2), (143, .ireturn, 1), (144, .iinc 4 1, 3), (147, .goto (-52), 3), (150, .iinc 3 1, 3), (153, .goto (-72), 3), (156, .iconst (-1), 1), (157, .ireturn, 1)])
def t_SB_vanishes : am_T := (⟨RX8, "vanishes", "(III)Z"⟩, prog_1_method_40_code, 4, (some .boolean), 8, (6, 144, 4), [(0, .aload_n 0, 1), (1, .getfield 42, 3), (4, .aload_n 0, 1), (5, .getfield 28, 3), (8, .iload_n 1, 1), (9, .iconst (-1), 1), (10, .aload_n 0, 1), (11, .getfield 28, 3), (14, .invokevirtual 106, 3), (17, .iload_n 3, 1), (18, .ior, 1), (19, .invokevirtual 217, 3), (22, .aload_n 0, 1), (23, .getfield 42, 3), (26, .iload_n 2, 1), (27, .invokevirtual 227, 3), (30, .ifCond .ne 7, 3), (33, .iconst 1, 1), (34, .goto 4, 3), (37, .iconst 0, 1), (38, .ireturn, 1)])
def t_SB_isCarriedOut : am_T := (⟨RX8, "isCarriedOut", "(II)Z"⟩, prog_1_method_39_code, 3, (some .boolean), 8, (2, 42, 3), [(0, .aload_n 0, 1), (1, .getfield 28, 3), (4, .iload_n 1, 1), (5, .invokevirtual 103, 3), (8, .ifCond .ne 19, 3), (11, .aload_n 0, 1), (12, .getfield 28, 3), (15, .iload_n 1, 1), (16, .invokevirtual 112, 3), (19, .iload_n 2, 1), (20, .if_icmp .gt 7, 3), (23, .iconst 1, 1), (24, .goto 4, 3), (27, .iconst 0, 1), (28, .ireturn, 1)])
def t_SB_between : am_T := (⟨RX8, "between", "(II)I"⟩, prog_1_method_41_code, 6, (some .int), 8, (7, 166, 3), [(0, .iload_n 1, 1), (1, .sipush 9999, 3), (4, .invokestatic 56, 3), (7, .ifCond .eq 10, 3), (10, .iload_n 2, 1), (11, .invokestatic 187, 3), (14, .ifCond .ne 6, 3), (17, .bipush (-2), 2), (19, .ireturn, 1), (20, .aload_n 0, 1), (21, .iload_n 1, 1), (22, .iconst (-1), 1), (23, .invokevirtual 162, 3), (26, .aload_n 0, 1), (27, .getfield 42, 3), (30, .iload_n 2, 1), (31, .invokevirtual 190, 3), (34, .istore_n 3, 1), (35, .iload_n 3, 1), (36, .iconst (-1), 1), (37, .if_icmp .ne 6, 3), (40, .bipush (-3), 2), (42, .ireturn, 1), (43, .iload_n 3, 1), (44, .aload_n 0, 1), (45, .getfield 42, 3), (48, .invokevirtual 165, 3), (51, .iconst 1, 1), (52, .isub, 1), (53, .if_icmp .ne 7, 3), (56, .iconst 1, 1), (57, .goto 4, 3), (60, .iconst 0, 1), (61, .istore 4, 2), (63, .iload 4, 2), (65, .ifCond .eq 9, 3), (68, .ldc_w 273, 3), (71, .goto 20, 3), (74, .aload_n 0, 1), (75, .getfield 42, 3), (78, .aload_n 0, 1), (79, .getfield 42, 3), (82, .iload_n 3, 1), (83, .iconst 1, 1), (84, .iadd, 1), (85, .invokevirtual 166, 3), (88, .invokevirtual 172, 3), (91, .istore 5, 2), (93, .iload_n 2, 1), (94, .iload 5, 2), (96, .invokestatic 274, 3), (99, .ireturn, 1)])
def t_SB_numberBetween : am_T := (⟨RX8, "numberBetween", "(II)I"⟩, prog_1_method_42_code, 7, (some .int), 8, (0, 0, 2), [(0, .iload_n 0, 1), (1, .sipush 729, 3), (4, .irem, 1), (5, .bipush 27, 2), (7, .idiv, 1), (8, .istore_n 2, 1), (9, .iload_n 0, 1), (10, .bipush 27, 2), (12, .irem, 1), (13, .istore_n 3, 1), (14, .iload_n 0, 1), (15, .sipush 729, 3), (18, .idiv, 1), (19, .iconst 1, 1), (20, .iadd, 1), (21, .sipush 729, 3), (24, .imul, 1), (25, .istore 4, 2), (27, .iload 4, 2), (29, .iload_n 1, 1), (30, .if_icmp .ge 6, 3), (33, .iload 4, 2), (35, .ireturn, 1), (36, .iload_n 0, 1), (37, .iload_n 3, 1), (38, .isub, 1), (39, .bipush 27, 2), (41, .iadd, 1), (42, .istore 5, 2), (44, .iload_n 2, 1), (45, .bipush 26, 2), (47, .if_icmp .ge 12, 3), (50, .iload 5, 2), (52, .iload_n 1, 1), (53, .if_icmp .ge 6, 3), (56, .iload 5, 2), (58, .ireturn, 1), (59, .iload_n 0, 1), (60, .iconst 1, 1), (61, .iadd, 1), (62, .istore 6, 2), (64, .iload_n 2, 1), (65, .ifCond .le 20, 3), (68, .iload_n 3, 1), (69, .bipush 26, 2), (71, .if_icmp .ge 14, 3), (74, .iload 6, 2), (76, .iload_n 1, 1), (77, .if_icmp .ge 8, 3), (80, .iload 6, 2), (82, .goto 4, 3), (85, .iconst (-1), 1), (86, .ireturn, 1)])
def t_SB_tidy : am_T := (⟨RX8, "tidy", "(I)I"⟩, prog_1_method_43_code, 2, (some .int), 8, (7, 166, 2), [(0, .iload_n 1, 1), (1, .sipush 9999, 3), (4, .invokestatic 56, 3), (7, .ifCond .ne 6, 3), (10, .bipush (-2), 2), (12, .ireturn, 1), (13, .aload_n 0, 1), (14, .iload_n 1, 1), (15, .iconst (-1), 1), (16, .invokevirtual 162, 3), (19, .aload_n 0, 1), (20, .aload_n 0, 1), (21, .getfield 12, 3), (24, .getfield 80, 3), (27, .invokevirtual 277, 3), (30, .aload_n 0, 1), (31, .getfield 12, 3), (34, .getfield 80, 3), (37, .invokevirtual 281, 3), (40, .ifCond .ne 8, 3), (43, .bipush (-3), 2), (45, .goto 8, 3), (48, .aload_n 0, 1), (49, .iload_n 1, 1), (50, .invokevirtual 76, 3), (53, .ireturn, 1)])
def t_SB_draftTidying : am_T := (⟨RX8, "draftTidying", "(LStatuteBook$Draft;)V"⟩, prog_1_method_44_code, 4, none, 8, (3, 66, 2), [(0, .aload_n 1, 1), (1, .invokevirtual 284, 3), (4, .aload_n 0, 1), (5, .getfield 42, 3), (8, .invokevirtual 165, 3), (11, .iconst 1, 1), (12, .isub, 1), (13, .istore_n 2, 1), (14, .iload_n 2, 1), (15, .ifCond .lt 54, 3), (18, .aload_n 0, 1), (19, .getfield 42, 3), (22, .aload_n 0, 1), (23, .getfield 42, 3), (26, .iload_n 2, 1), (27, .invokevirtual 166, 3), (30, .invokevirtual 172, 3), (33, .istore_n 3, 1), (34, .iload_n 2, 1), (35, .iconst 1, 1), (36, .iadd, 1), (37, .sipush 729, 3), (40, .imul, 1), (41, .iload_n 3, 1), (42, .if_icmp .le 21, 3), (45, .aload_n 1, 1), (46, .iconst 3, 1), (47, .iload_n 3, 1), (48, .invokevirtual 285, 3), (51, .aload_n 1, 1), (52, .iconst 2, 1), (53, .iload_n 2, 1), (54, .iconst 1, 1), (55, .iadd, 1), (56, .sipush 729, 3), (59, .imul, 1), (60, .invokevirtual 288, 3), (63, .iinc 2 (-1), 3), (66, .goto (-52), 3), (69, .iconst 0, 1), (70, .istore_n 2, 1), (71, .iload_n 2, 1), (72, .aload_n 0, 1), (73, .getfield 42, 3), (76, .invokevirtual 165, 3), (79, .if_icmp .ge 54, 3), (82, .aload_n 0, 1), (83, .getfield 42, 3), (86, .aload_n 0, 1), (87, .getfield 42, 3), (90, .iload_n 2, 1), (91, .invokevirtual 166, 3), (94, .invokevirtual 172, 3), (97, .istore_n 3, 1), (98, .iload_n 2, 1), (99, .iconst 1, 1), (100, .iadd, 1), (101, .sipush 729, 3), (104, .imul, 1), (105, .iload_n 3, 1), (106, .if_icmp .ge 21, 3), (109, .aload_n 1, 1), (110, .iconst 3, 1), (111, .iload_n 3, 1), (112, .invokevirtual 285, 3), (115, .aload_n 1, 1), (116, .iconst 2, 1), (117, .iload_n 2, 1), (118, .iconst 1, 1), (119, .iadd, 1), (120, .sipush 729, 3), (123, .imul, 1), (124, .invokevirtual 288, 3), (127, .iinc 2 1, 3), (130, .goto (-59), 3), (133, .return_, 1)])
def t_SB_save : am_T := (⟨RX8, "save", "(I)I"⟩, prog_1_method_45_code, 2, (some .int), 8, (4, 87, 2), [(0, .iload_n 1, 1), (1, .iconst 1, 1), (2, .invokestatic 56, 3), (5, .ifCond .ne 6, 3), (8, .bipush (-2), 2), (10, .ireturn, 1), (11, .aload_n 0, 1), (12, .getfield 35, 3), (15, .iload_n 1, 1), (16, .aload_n 0, 1), (17, .getfield 28, 3), (20, .invokevirtual 291, 3), (23, .aload_n 0, 1), (24, .getfield 28, 3), (27, .invokevirtual 96, 3), (30, .ireturn, 1)])
def t_Arc_keepSnapshot : am_T := (⟨RX1, "keepSnapshot", "(ILStatuteBook$Amendments;)V"⟩, prog_3_method_9_code, 3, none, 1, (3, 65, 3), [(0, .aload_n 0, 1), (1, .bipush 10, 2), (3, .iload_n 1, 1), (4, .iadd, 1), (5, .aload_n 2, 1), (6, .invokevirtual 40, 3), (9, .aload_n 0, 1), (10, .dup, 1), (11, .getfield 47, 3), (14, .iconst 1, 1), (15, .iload_n 1, 1), (16, .ishl, 1), (17, .ior, 1), (18, .putfield 47, 3), (21, .return_, 1)])
def t_SB_restore : am_T := (⟨RX8, "restore", "(I)I"⟩, prog_1_method_46_code, 2, (some .int), 8, (4, 87, 2), [(0, .iload_n 1, 1), (1, .iconst 1, 1), (2, .invokestatic 56, 3), (5, .ifCond .ne 6, 3), (8, .bipush (-2), 2), (10, .ireturn, 1), (11, .aload_n 0, 1), (12, .getfield 35, 3), (15, .iload_n 1, 1), (16, .invokevirtual 295, 3), (19, .ifCond .ne 6, 3), (22, .bipush (-3), 2), (24, .ireturn, 1), (25, .aload_n 0, 1), (26, .getfield 35, 3), (29, .iload_n 1, 1), (30, .aload_n 0, 1), (31, .getfield 28, 3), (34, .invokevirtual 298, 3), (37, .aload_n 0, 1), (38, .getfield 28, 3), (41, .invokevirtual 96, 3), (44, .ireturn, 1)])
def t_Arc_hasSnapshot : am_T := (⟨RX1, "hasSnapshot", "(I)Z"⟩, prog_3_method_8_code, 2, (some .boolean), 1, (0, 0, 2), [(0, .aload_n 0, 1), (1, .getfield 47, 3), (4, .iload_n 1, 1), (5, .ishr, 1), (6, .iconst 1, 1), (7, .iand, 1), (8, .iconst 1, 1), (9, .if_icmp .ne 7, 3), (12, .iconst 1, 1), (13, .goto 4, 3), (16, .iconst 0, 1), (17, .ireturn, 1)])
def t_Arc_bringSnapshot : am_T := (⟨RX1, "bringSnapshot", "(ILStatuteBook$Amendments;)V"⟩, prog_3_method_10_code, 3, none, 1, (3, 65, 3), [(0, .aload_n 0, 1), (1, .bipush 10, 2), (3, .iload_n 1, 1), (4, .iadd, 1), (5, .aload_n 2, 1), (6, .invokevirtual 44, 3), (9, .aload_n 0, 1), (10, .iconst 0, 1), (11, .putfield 22, 3), (14, .return_, 1)])
def t_SB_count : am_T := (⟨RX8, "count", "(I)I"⟩, prog_1_method_47_code, 2, (some .int), 8, (7, 164, 2), [(0, .iload_n 1, 1), (1, .bipush 8, 2), (3, .invokestatic 56, 3), (6, .ifCond .ne 6, 3), (9, .bipush (-2), 2), (11, .ireturn, 1), (12, .aload_n 0, 1), (13, .invokevirtual 128, 3), (16, .aload_n 0, 1), (17, .iload_n 1, 1), (18, .invokevirtual 301, 3), (21, .ireturn, 1)])
def t_SB_countPart : am_T := (⟨RX8, "countPart", "(I)I"⟩, prog_1_method_48_code, 2, (some .int), 8, (2, 41, 2), [(0, .iload_n 1, 1), (1, .tableswitch 117 0 7 #[47, 55, 63, 71, 79, 90, 98, 109], 47), (48, .aload_n 0, 1), (49, .getfield 28, 3), (52, .invokevirtual 96, 3), (55, .ireturn, 1), (56, .aload_n 0, 1), (57, .getfield 28, 3), (60, .invokevirtual 256, 3), (63, .ireturn, 1), (64, .aload_n 0, 1), (65, .getfield 28, 3), (68, .invokevirtual 304, 3), (71, .ireturn, 1), (72, .aload_n 0, 1), (73, .getfield 35, 3), (76, .invokevirtual 122, 3), (79, .ireturn, 1), (80, .aload_n 0, 1), (81, .getfield 12, 3), (84, .getfield 60, 3), (87, .invokevirtual 63, 3), (90, .ireturn, 1), (91, .aload_n 0, 1), (92, .getfield 21, 3), (95, .invokevirtual 63, 3), (98, .ireturn, 1), (99, .aload_n 0, 1), (100, .getfield 28, 3), (103, .invokevirtual 106, 3), (106, .invokestatic 307, 3), (109, .ireturn, 1), (110, .aload_n 0, 1), (111, .getfield 35, 3), (114, .invokevirtual 312, 3), (117, .ireturn, 1), (118, .aload_n 0, 1), (119, .getfield 42, 3), (122, .invokevirtual 165, 3), (125, .ireturn, 1)])
def t_Int_bitCount : am_T := (⟨"java/lang/Integer", "bitCount", "(I)I"⟩, prog_12_method_49_code, 1, (some .int), 12, (0, 0, 1), [(0, .iload_n 0, 1), (1, .iload_n 0, 1), (2, .iconst 1, 1), (3, .iushr, 1), (4, .ldc_w 265, 3), (7, .iand, 1), (8, .isub, 1), (9, .istore_n 0, 1), (10, .iload_n 0, 1), (11, .ldc_w 266, 3), (14, .iand, 1), (15, .iload_n 0, 1), (16, .iconst 2, 1), (17, .iushr, 1), (18, .ldc_w 266, 3), (21, .iand, 1), (22, .iadd, 1), (23, .istore_n 0, 1), (24, .iload_n 0, 1), (25, .iload_n 0, 1), (26, .iconst 4, 1), (27, .iushr, 1), (28, .iadd, 1), (29, .ldc_w 267, 3), (32, .iand, 1), (33, .istore_n 0, 1), (34, .iload_n 0, 1), (35, .iload_n 0, 1), (36, .bipush 8, 2), (38, .iushr, 1), (39, .iadd, 1), (40, .istore_n 0, 1), (41, .iload_n 0, 1), (42, .iload_n 0, 1), (43, .bipush 16, 2), (45, .iushr, 1), (46, .iadd, 1), (47, .istore_n 0, 1), (48, .iload_n 0, 1), (49, .bipush 63, 2), (51, .iand, 1), (52, .ireturn, 1)])
def t_Arc_snapshots : am_T := (⟨RX1, "snapshots", "()I"⟩, prog_3_method_7_code, 1, (some .int), 1, (1, 20, 1), [(0, .aload_n 0, 1), (1, .getfield 47, 3), (4, .invokestatic 50, 3), (7, .ireturn, 1)])
def t_SB_digest : am_T := (⟨RX8, "digest", "()J"⟩, prog_1_method_49_code, 4, (some .long), 8, (7, 164, 1), [(0, .aload_n 0, 1), (1, .invokevirtual 128, 3), (4, .ldc2_w 315, 3), (7, .lstore_n 1, 1), (8, .iconst 0, 1), (9, .istore_n 3, 1), (10, .iload_n 3, 1), (11, .bipush 8, 2), (13, .if_icmp .gt 19, 3), (16, .lload_n 1, 1), (17, .aload_n 0, 1), (18, .iload_n 3, 1), (19, .invokevirtual 301, 3), (22, .invokestatic 317, 3), (25, .lstore_n 1, 1), (26, .iinc 3 1, 3), (29, .goto (-19), 3), (32, .iconst 0, 1), (33, .istore_n 3, 1), (34, .iload_n 3, 1), (35, .aload_n 0, 1), (36, .getfield 28, 3), (39, .invokevirtual 96, 3), (42, .if_icmp .ge 16, 3), (45, .aload_n 0, 1), (46, .lload_n 1, 1), (47, .iload_n 3, 1), (48, .invokevirtual 321, 3), (51, .lstore_n 1, 1), (52, .iinc 3 1, 3), (55, .goto (-21), 3), (58, .iconst 0, 1), (59, .istore_n 3, 1), (60, .iload_n 3, 1), (61, .aload_n 0, 1), (62, .getfield 42, 3), (65, .invokevirtual 165, 3), (68, .if_icmp .ge 23, 3), (71, .aload_n 0, 1), (72, .lload_n 1, 1), (73, .aload_n 0, 1), (74, .getfield 42, 3), (77, .iload_n 3, 1), (78, .invokevirtual 166, 3), (81, .invokevirtual 324, 3), (84, .lstore_n 1, 1), (85, .iinc 3 1, 3), (88, .goto (-28), 3), (91, .iconst 0, 1), (92, .istore_n 3, 1), (93, .iload_n 3, 1), (94, .bipush 6, 2), (96, .if_icmp .gt 19, 3), (99, .lload_n 1, 1), (100, .aload_n 0, 1), (101, .iload_n 3, 1), (102, .invokevirtual 250, 3), (105, .invokestatic 317, 3), (108, .lstore_n 1, 1), (109, .iinc 3 1, 3), (112, .goto (-19), 3), (115, .lload_n 1, 1), (116, .aload_n 0, 1), (117, .getfield 21, 3), (120, .invokestatic 327, 3), (123, .aload_n 0, 1), (124, .getfield 12, 3), (127, .getfield 60, 3), (130, .invokestatic 327, 3), (133, .lreturn, 1)])
def t_SB_mixed : am_T := (⟨RX8, "mixed", "(JI)J"⟩, prog_1_method_50_code, 3, (some .long), 8, (0, 0, 2), [(0, .ldc2_w 331, 3), (3, .lload_n 0, 1), (4, .lmul, 1), (5, .iload_n 2, 1), (6, .i2l, 1), (7, .ladd, 1), (8, .lreturn, 1)])
def t_SB_mixedAmendment : am_T := (⟨RX8, "mixedAmendment", "(JI)J"⟩, prog_1_method_51_code, 8, (some .long), 8, (4, 88, 3), [(0, .lload_n 1, 1), (1, .lstore 4, 2), (3, .iconst 0, 1), (4, .istore 6, 2), (6, .iload 6, 2), (8, .iconst 3, 1), (9, .if_icmp .gt 23, 3), (12, .lload 4, 2), (14, .aload_n 0, 1), (15, .iload_n 3, 1), (16, .iload 6, 2), (18, .invokevirtual 131, 3), (21, .invokestatic 317, 3), (24, .lstore 4, 2), (26, .iinc 6 1, 3), (29, .goto (-23), 3), (32, .aload_n 0, 1), (33, .getfield 28, 3), (36, .iload_n 3, 1), (37, .invokevirtual 138, 3), (40, .istore 6, 2), (42, .iload 6, 2), (44, .aload_n 0, 1), (45, .getfield 28, 3), (48, .iload_n 3, 1), (49, .iconst 1, 1), (50, .iadd, 1), (51, .invokevirtual 138, 3), (54, .if_icmp .ge 85, 3), (57, .iconst 0, 1), (58, .istore 7, 2), (60, .iload 7, 2), (62, .bipush 8, 2), (64, .if_icmp .gt 24, 3), (67, .lload 4, 2), (69, .aload_n 0, 1), (70, .iload 6, 2), (72, .iload 7, 2), (74, .invokevirtual 147, 3), (77, .invokestatic 317, 3), (80, .lstore 4, 2), (82, .iinc 7 1, 3), (85, .goto (-25), 3), (88, .iconst 0, 1), (89, .istore 7, 2), (91, .iload 7, 2), (93, .aload_n 0, 1), (94, .getfield 28, 3), (97, .iload 6, 2), (99, .iconst 5, 1), (100, .invokevirtual 156, 3), (103, .if_icmp .ge 30, 3), (106, .lload 4, 2), (108, .aload_n 0, 1), (109, .getfield 28, 3), (112, .iload 6, 2), (114, .bipush 7, 2), (116, .iload 7, 2), (118, .iadd, 1), (119, .invokevirtual 156, 3), (122, .invokestatic 317, 3), (125, .lstore 4, 2), (127, .iinc 7 1, 3), (130, .goto (-39), 3), (133, .iinc 6 1, 3), (136, .goto (-94), 3), (139, .lload 4, 2), (141, .lreturn, 1)])
def t_SB_mixedClause : am_T := (⟨RX8, "mixedClause", "(JI)J"⟩, prog_1_method_52_code, 7, (some .long), 8, (3, 67, 3), [(0, .lload_n 1, 1), (1, .lstore 4, 2), (3, .iconst 0, 1), (4, .istore 6, 2), (6, .iload 6, 2), (8, .iconst 3, 1), (9, .if_icmp .gt 23, 3), (12, .lload 4, 2), (14, .aload_n 0, 1), (15, .iload_n 3, 1), (16, .iload 6, 2), (18, .invokevirtual 169, 3), (21, .invokestatic 317, 3), (24, .lstore 4, 2), (26, .iinc 6 1, 3), (29, .goto (-23), 3), (32, .iconst 0, 1), (33, .istore 6, 2), (35, .iload 6, 2), (37, .aload_n 0, 1), (38, .getfield 42, 3), (41, .iload_n 3, 1), (42, .invokevirtual 175, 3), (45, .if_icmp .ge 23, 3), (48, .lload 4, 2), (50, .aload_n 0, 1), (51, .iload_n 3, 1), (52, .iload 6, 2), (54, .invokevirtual 181, 3), (57, .invokestatic 317, 3), (60, .lstore 4, 2), (62, .iinc 6 1, 3), (65, .goto (-30), 3), (68, .lload 4, 2), (70, .lreturn, 1)])
def t_SB_mixedPage : am_T := (⟨RX8, "mixedPage", "(JLStatuteBook$Page;)J"⟩, prog_1_method_53_code, 6, (some .long), 8, (2, 41, 2), [(0, .lload_n 0, 1), (1, .lstore_n 3, 1), (2, .iconst 0, 1), (3, .istore 5, 2), (5, .iload 5, 2), (7, .aload_n 2, 1), (8, .invokevirtual 63, 3), (11, .if_icmp .ge 20, 3), (14, .lload_n 3, 1), (15, .aload_n 2, 1), (16, .iload 5, 2), (18, .invokevirtual 205, 3), (21, .invokestatic 317, 3), (24, .lstore_n 3, 1), (25, .iinc 5 1, 3), (28, .goto (-23), 3), (31, .lload_n 3, 1), (32, .lreturn, 1)])
def t_Mo_type : am_T := (⟨RX9, "type", "(I)I"⟩, prog_11_method_31_code, 2, (some .int), 9, (1, 22, 2), [(0, .iload_n 1, 1), (1, .iconst 0, 1), (2, .bipush 127, 2), (4, .invokestatic 76, 3), (7, .ifCond .ne 6, 3), (10, .bipush (-2), 2), (12, .ireturn, 1), (13, .aload_n 0, 1), (14, .getfield 149, 3), (17, .bipush 120, 2), (19, .if_icmp .ne 6, 3), (22, .bipush (-4), 2), (24, .ireturn, 1), (25, .aload_n 0, 1), (26, .getfield 52, 3), (29, .aload_n 0, 1), (30, .getfield 149, 3), (33, .iload_n 1, 1), (34, .iastore, 1), (35, .aload_n 0, 1), (36, .dup, 1), (37, .getfield 149, 3), (40, .iconst 1, 1), (41, .iadd, 1), (42, .putfield 149, 3), (45, .aload_n 0, 1), (46, .getfield 149, 3), (49, .ireturn, 1)])
def t_Mo_in : am_T := (⟨RX9, "in", "(III)Z"⟩, prog_11_method_2_code, 3, (some .boolean), 9, (0, 0, 3), [(0, .iload_n 0, 1), (1, .iload_n 1, 1), (2, .if_icmp .lt 12, 3), (5, .iload_n 0, 1), (6, .iload_n 2, 1), (7, .if_icmp .gt 7, 3), (10, .iconst 1, 1), (11, .goto 4, 3), (14, .iconst 0, 1), (15, .ireturn, 1)])
def t_Mo_clear : am_T := (⟨RX9, "clear", "()I"⟩, prog_11_method_32_code, 2, (some .int), 9, (0, 0, 1), [(0, .aload_n 0, 1), (1, .getfield 149, 3), (4, .istore_n 1, 1), (5, .aload_n 0, 1), (6, .iconst 0, 1), (7, .putfield 149, 3), (10, .iload_n 1, 1), (11, .ireturn, 1)])
def t_Mo_enact : am_T := (⟨RX9, "enact", "(I)I"⟩, prog_11_method_54_code, 3, (some .int), 9, (7, 155, 2), [(0, .iload_n 1, 1), (1, .invokestatic 80, 3), (4, .ifCond .ne 6, 3), (7, .bipush (-2), 2), (9, .ireturn, 1), (10, .aload_n 0, 1), (11, .invokevirtual 233, 3), (14, .aload_n 0, 1), (15, .getfield 158, 3), (18, .iconst (-1), 1), (19, .if_icmp .eq 12, 3), (22, .sipush (-2000), 3), (25, .aload_n 0, 1), (26, .getfield 158, 3), (29, .isub, 1), (30, .ireturn, 1), (31, .aload_n 0, 1), (32, .iload_n 1, 1), (33, .invokevirtual 236, 3), (36, .istore_n 2, 1), (37, .aload_n 0, 1), (38, .iload_n 2, 1), (39, .ifCond .lt 7, 3), (42, .iconst 0, 1), (43, .goto 7, 3), (46, .aload_n 0, 1), (47, .getfield 149, 3), (50, .putfield 149, 3), (53, .iload_n 2, 1), (54, .ireturn, 1)])
def t_Mo_isDay : am_T := (⟨RX9, "isDay", "(I)Z"⟩, prog_11_method_3_code, 1, (some .boolean), 9, (1, 22, 1), [(0, .iload_n 0, 1), (1, .iconst 0, 1), (2, .sipush 9999, 3), (5, .invokestatic 76, 3), (8, .ireturn, 1)])
def t_Mo_readsAll : am_T := (⟨RX9, "readsAll", "()V"⟩, prog_11_method_51_code, 2, none, 9, (6, 134, 1), [(0, .aload_n 0, 1), (1, .iconst 0, 1), (2, .putfield 155, 3), (5, .aload_n 0, 1), (6, .iconst (-1), 1), (7, .putfield 158, 3), (10, .aload_n 0, 1), (11, .iconst 0, 1), (12, .putfield 198, 3), (15, .iconst 1, 1), (16, .istore_n 1, 1), (17, .aload_n 0, 1), (18, .getfield 158, 3), (21, .iconst (-1), 1), (22, .if_icmp .ne 86, 3), (25, .iload_n 1, 1), (26, .ifCond .eq 82, 3), (29, .aload_n 0, 1), (30, .invokevirtual 174, 3), (33, .aload_n 0, 1), (34, .invokevirtual 224, 3), (37, .aload_n 0, 1), (38, .aload_n 0, 1), (39, .getfield 155, 3), (42, .invokevirtual 152, 3), (45, .bipush 59, 2), (47, .if_icmp .ne 7, 3), (50, .iconst 1, 1), (51, .goto 4, 3), (54, .iconst 0, 1), (55, .istore_n 1, 1), (56, .aload_n 0, 1), (57, .getfield 158, 3), (60, .iconst (-1), 1), (61, .if_icmp .ne 26, 3), (64, .iload_n 1, 1), (65, .ifCond .ne 22, 3), (68, .aload_n 0, 1), (69, .getfield 155, 3), (72, .aload_n 0, 1), (73, .getfield 149, 3), (76, .if_icmp .ge 11, 3), (79, .aload_n 0, 1), (80, .aload_n 0, 1), (81, .getfield 155, 3), (84, .invokevirtual 181, 3), (87, .aload_n 0, 1), (88, .dup, 1), (89, .getfield 155, 3), (92, .iload_n 1, 1), (93, .ifCond .eq 7, 3), (96, .iconst 1, 1), (97, .goto 4, 3), (100, .iconst 0, 1), (101, .iadd, 1), (102, .putfield 155, 3), (105, .goto (-88), 3), (108, .return_, 1)])
def t_Mo_skips : am_T := (⟨RX9, "skips", "()V"⟩, prog_11_method_36_code, 1, none, 9, (1, 21, 1), [(0, .aload_n 0, 1), (1, .aload_n 0, 1), (2, .getfield 155, 3), (5, .invokevirtual 152, 3), (8, .bipush 32, 2), (10, .if_icmp .ne 16, 3), (13, .aload_n 0, 1), (14, .dup, 1), (15, .getfield 155, 3), (18, .iconst 1, 1), (19, .iadd, 1), (20, .putfield 155, 3), (23, .goto (-23), 3), (26, .return_, 1)])
def t_Mo_byteAt : am_T := (⟨RX9, "byteAt", "(I)I"⟩, prog_11_method_33_code, 2, (some .int), 9, (0, 0, 2), [(0, .iload_n 1, 1), (1, .aload_n 0, 1), (2, .getfield 149, 3), (5, .if_icmp .ge 12, 3), (8, .aload_n 0, 1), (9, .getfield 52, 3), (12, .iload_n 1, 1), (13, .iaload, 1), (14, .goto 4, 3), (17, .iconst (-1), 1), (18, .ireturn, 1)])
def t_Mo_readsOperation : am_T := (⟨RX9, "readsOperation", "()V"⟩, prog_11_method_50_code, 3, none, 9, (5, 112, 1), [(0, .aload_n 0, 1), (1, .getfield 155, 3), (4, .istore_n 1, 1), (5, .aload_n 0, 1), (6, .getfield 198, 3), (9, .bipush 40, 2), (11, .if_icmp .ne 12, 3), (14, .aload_n 0, 1), (15, .aload_n 0, 1), (16, .getfield 155, 3), (19, .invokevirtual 181, 3), (22, .return_, 1), (23, .iconst 0, 1), (24, .istore_n 2, 1), (25, .iload_n 2, 1), (26, .bipush 12, 2), (28, .if_icmp .ge 15, 3), (31, .aload_n 0, 1), (32, .iload_n 2, 1), (33, .iconst 0, 1), (34, .invokevirtual 201, 3), (37, .iinc 2 1, 3), (40, .goto (-15), 3), (43, .aload_n 0, 1), (44, .invokevirtual 177, 3), (47, .invokestatic 204, 3), (50, .istore_n 2, 1), (51, .iload_n 2, 1), (52, .iconst (-1), 1), (53, .if_icmp .ne 9, 3), (56, .aload_n 0, 1), (57, .iload_n 1, 1), (58, .invokevirtual 181, 3), (61, .return_, 1), (62, .aload_n 0, 1), (63, .iconst 0, 1), (64, .iload_n 2, 1), (65, .invokevirtual 201, 3), (68, .aload_n 0, 1), (69, .iconst 1, 1), (70, .aload_n 0, 1), (71, .invokevirtual 208, 3), (74, .invokevirtual 201, 3), (77, .iload_n 2, 1), (78, .iconst 2, 1), (79, .if_icmp .ge 7, 3), (82, .aload_n 0, 1), (83, .invokevirtual 211, 3), (86, .iload_n 2, 1), (87, .iconst 3, 1), (88, .if_icmp .ne 29, 3), (91, .aload_n 0, 1), (92, .bipush 116, 2), (94, .bipush 111, 2), (96, .iconst 0, 1), (97, .iconst 0, 1), (98, .iconst 0, 1), (99, .iconst 0, 1), (100, .iconst 0, 1), (101, .iconst 0, 1), (102, .invokestatic 170, 3), (105, .invokevirtual 214, 3), (108, .aload_n 0, 1), (109, .iconst 2, 1), (110, .aload_n 0, 1), (111, .invokevirtual 208, 3), (114, .invokevirtual 201, 3), (117, .iload_n 2, 1), (118, .iconst 4, 1), (119, .if_icmp .ne 57, 3), (122, .aload_n 0, 1), (123, .bipush 102, 2), (125, .bipush 111, 2), (127, .bipush 114, 2), (129, .iconst 0, 1), (130, .iconst 0, 1), (131, .iconst 0, 1), (132, .iconst 0, 1), (133, .iconst 0, 1), (134, .invokestatic 170, 3), (137, .invokevirtual 214, 3), (140, .aload_n 0, 1), (141, .iconst 2, 1), (142, .aload_n 0, 1), (143, .invokevirtual 218, 3), (146, .invokevirtual 201, 3), (149, .aload_n 0, 1), (150, .bipush 112, 2), (152, .bipush 117, 2), (154, .bipush 116, 2), (156, .iconst 0, 1), (157, .iconst 0, 1), (158, .iconst 0, 1), (159, .iconst 0, 1), (160, .iconst 0, 1), (161, .invokestatic 170, 3), (164, .invokevirtual 214, 3), (167, .aload_n 0, 1), (168, .iconst 3, 1), (169, .aload_n 0, 1), (170, .invokevirtual 218, 3), (173, .invokevirtual 201, 3), (176, .iload_n 2, 1), (177, .iconst 1, 1), (178, .if_icmp .eq 13, 3), (181, .iload_n 2, 1), (182, .iconst 2, 1), (183, .if_icmp .eq 8, 3), (186, .iload_n 2, 1), (187, .iconst 4, 1), (188, .if_icmp .ne 7, 3), (191, .aload_n 0, 1), (192, .invokevirtual 221, 3), (195, .aload_n 0, 1), (196, .invokevirtual 174, 3), (199, .aload_n 0, 1), (200, .dup, 1), (201, .getfield 198, 3), (204, .iconst 1, 1), (205, .iadd, 1), (206, .putfield 198, 3), (209, .return_, 1)])
def t_Mo_fails : am_T := (⟨RX9, "fails", "(I)V"⟩, prog_11_method_37_code, 2, none, 9, (0, 0, 2), [(0, .aload_n 0, 1), (1, .aload_n 0, 1), (2, .getfield 158, 3), (5, .iconst (-1), 1), (6, .if_icmp .ne 7, 3), (9, .iload_n 1, 1), (10, .goto 7, 3), (13, .aload_n 0, 1), (14, .getfield 158, 3), (17, .putfield 158, 3), (20, .return_, 1)])
def t_Mo_puts : am_T := (⟨RX9, "puts", "(II)V"⟩, prog_11_method_47_code, 3, none, 9, (0, 0, 3), [(0, .aload_n 0, 1), (1, .getfield 55, 3), (4, .bipush 12, 2), (6, .aload_n 0, 1), (7, .getfield 198, 3), (10, .imul, 1), (11, .iload_n 1, 1), (12, .iadd, 1), (13, .iload_n 2, 1), (14, .iastore, 1), (15, .return_, 1)])
def t_Mo_readsLetters : am_T := (⟨RX9, "readsLetters", "()J"⟩, prog_11_method_38_code, 3, (some .long), 9, (2, 43, 1), [(0, .lconst 0, 1), (1, .lstore_n 1, 1), (2, .aload_n 0, 1), (3, .aload_n 0, 1), (4, .getfield 155, 3), (7, .invokevirtual 161, 3), (10, .ifCond .eq 48, 3), (13, .lload_n 1, 1), (14, .ldc2_w 164, 3), (17, .lcmp, 1), (18, .ifCond .le 7, 3), (21, .lload_n 1, 1), (22, .goto 22, 3), (25, .ldc2_w 166, 3), (28, .lload_n 1, 1), (29, .lmul, 1), (30, .aload_n 0, 1), (31, .aload_n 0, 1), (32, .getfield 155, 3), (35, .invokevirtual 152, 3), (38, .i2l, 1), (39, .ladd, 1), (40, .ldc2_w 168, 3), (43, .lsub, 1), (44, .lstore_n 1, 1), (45, .aload_n 0, 1), (46, .dup, 1), (47, .getfield 155, 3), (50, .iconst 1, 1), (51, .iadd, 1), (52, .putfield 155, 3), (55, .goto (-53), 3), (58, .lload_n 1, 1), (59, .lreturn, 1)])
def t_Mo_isSmall : am_T := (⟨RX9, "isSmall", "(I)Z"⟩, prog_11_method_35_code, 2, (some .boolean), 9, (1, 22, 2), [(0, .aload_n 0, 1), (1, .iload_n 1, 1), (2, .invokevirtual 152, 3), (5, .bipush 97, 2), (7, .bipush 122, 2), (9, .invokestatic 76, 3), (12, .ireturn, 1)])
def t_Mo_kindOf : am_T := (⟨RX9, "kindOf", "(J)I"⟩, prog_11_method_40_code, 2, (some .int), 9, (1, 29, 1), [(0, .lload_n 0, 1), (1, .bipush 105, 2), (3, .bipush 110, 2), (5, .bipush 115, 2), (7, .bipush 101, 2), (9, .bipush 114, 2), (11, .bipush 116, 2), (13, .iconst 0, 1), (14, .iconst 0, 1), (15, .invokestatic 170, 3), (18, .lcmp, 1), (19, .ifCond .ne 5, 3), (22, .iconst 0, 1), (23, .ireturn, 1), (24, .lload_n 0, 1), (25, .bipush 114, 2), (27, .bipush 101, 2), (29, .bipush 112, 2), (31, .bipush 108, 2), (33, .bipush 97, 2), (35, .bipush 99, 2), (37, .bipush 101, 2), (39, .iconst 0, 1), (40, .invokestatic 170, 3), (43, .lcmp, 1), (44, .ifCond .ne 5, 3), (47, .iconst 1, 1), (48, .ireturn, 1), (49, .lload_n 0, 1), (50, .bipush 114, 2), (52, .bipush 101, 2), (54, .bipush 112, 2), (56, .bipush 101, 2), (58, .bipush 97, 2), (60, .bipush 108, 2), (62, .iconst 0, 1), (63, .iconst 0, 1), (64, .invokestatic 170, 3), (67, .lcmp, 1), (68, .ifCond .ne 5, 3), (71, .iconst 2, 1), (72, .ireturn, 1), (73, .lload_n 0, 1), (74, .bipush 114, 2), (76, .bipush 101, 2), (78, .bipush 110, 2), (80, .bipush 117, 2), (82, .bipush 109, 2), (84, .bipush 98, 2), (86, .bipush 101, 2), (88, .bipush 114, 2), (90, .invokestatic 170, 3), (93, .lcmp, 1), (94, .ifCond .ne 5, 3), (97, .iconst 3, 1), (98, .ireturn, 1), (99, .lload_n 0, 1), (100, .bipush 105, 2), (102, .bipush 110, 2), (104, .iconst 0, 1), (105, .iconst 0, 1), (106, .iconst 0, 1), (107, .iconst 0, 1), (108, .iconst 0, 1), (109, .iconst 0, 1), (110, .invokestatic 170, 3), (113, .lcmp, 1), (114, .ifCond .ne 7, 3), (117, .iconst 4, 1), (118, .goto 4, 3), (121, .iconst (-1), 1), (122, .ireturn, 1)])
def t_Mo_lettersOf : am_T := (⟨RX9, "lettersOf", "(IIIIIIII)J"⟩, prog_11_method_39_code, 10, (some .long), 9, (0, 0, 8), [(0, .lconst 0, 1), (1, .lstore 8, 2), (3, .iload_n 0, 1), (4, .ifCond .le 19, 3), (7, .ldc2_w 166, 3), (10, .lload 8, 2), (12, .lmul, 1), (13, .iload_n 0, 1), (14, .i2l, 1), (15, .ladd, 1), (16, .ldc2_w 168, 3), (19, .lsub, 1), (20, .goto 5, 3), (23, .lload 8, 2), (25, .lstore 8, 2), (27, .iload_n 1, 1), (28, .ifCond .le 19, 3), (31, .ldc2_w 166, 3), (34, .lload 8, 2), (36, .lmul, 1), (37, .iload_n 1, 1), (38, .i2l, 1), (39, .ladd, 1), (40, .ldc2_w 168, 3), (43, .lsub, 1), (44, .goto 5, 3), (47, .lload 8, 2), (49, .lstore 8, 2), (51, .iload_n 2, 1), (52, .ifCond .le 19, 3), (55, .ldc2_w 166, 3), (58, .lload 8, 2), (60, .lmul, 1), (61, .iload_n 2, 1), (62, .i2l, 1), (63, .ladd, 1), (64, .ldc2_w 168, 3), (67, .lsub, 1), (68, .goto 5, 3), (71, .lload 8, 2), (73, .lstore 8, 2), (75, .iload_n 3, 1), (76, .ifCond .le 19, 3), (79, .ldc2_w 166, 3), (82, .lload 8, 2), (84, .lmul, 1), (85, .iload_n 3, 1), (86, .i2l, 1), (87, .ladd, 1), (88, .ldc2_w 168, 3), (91, .lsub, 1), (92, .goto 5, 3), (95, .lload 8, 2), (97, .lstore 8, 2), (99, .iload 4, 2), (101, .ifCond .le 20, 3), (104, .ldc2_w 166, 3), (107, .lload 8, 2), (109, .lmul, 1), (110, .iload 4, 2), (112, .i2l, 1), (113, .ladd, 1), (114, .ldc2_w 168, 3), (117, .lsub, 1), (118, .goto 5, 3), (121, .lload 8, 2), (123, .lstore 8, 2), (125, .iload 5, 2), (127, .ifCond .le 20, 3), (130, .ldc2_w 166, 3), (133, .lload 8, 2), (135, .lmul, 1), (136, .iload 5, 2), (138, .i2l, 1), (139, .ladd, 1), (140, .ldc2_w 168, 3), (143, .lsub, 1), (144, .goto 5, 3), (147, .lload 8, 2), (149, .lstore 8, 2), (151, .iload 6, 2), (153, .ifCond .le 20, 3), (156, .ldc2_w 166, 3), (159, .lload 8, 2), (161, .lmul, 1), (162, .iload 6, 2), (164, .i2l, 1), (165, .ladd, 1), (166, .ldc2_w 168, 3), (169, .lsub, 1), (170, .goto 5, 3), (173, .lload 8, 2), (175, .lstore 8, 2), (177, .iload 7, 2), (179, .ifCond .le 20, 3), (182, .ldc2_w 166, 3), (185, .lload 8, 2), (187, .lmul, 1), (188, .iload 7, 2), (190, .i2l, 1), (191, .ladd, 1), (192, .ldc2_w 168, 3), (195, .lsub, 1), (196, .goto 5, 3), (199, .lload 8, 2), (201, .lreturn, 1)])
def t_Mo_numberBehindBlanks : am_T := (⟨RX9, "numberBehindBlanks", "()I"⟩, prog_11_method_45_code, 1, (some .int), 9, (4, 89, 1), [(0, .aload_n 0, 1), (1, .invokevirtual 174, 3), (4, .aload_n 0, 1), (5, .getfield 158, 3), (8, .iconst (-1), 1), (9, .if_icmp .ne 10, 3), (12, .aload_n 0, 1), (13, .invokevirtual 195, 3), (16, .goto 4, 3), (19, .iconst 0, 1), (20, .ireturn, 1)])
def t_Mo_readsNumber : am_T := (⟨RX9, "readsNumber", "()I"⟩, prog_11_method_44_code, 4, (some .int), 9, (3, 66, 1), [(0, .sipush 729, 3), (3, .aload_n 0, 1), (4, .iconst 1, 1), (5, .invokevirtual 188, 3), (8, .imul, 1), (9, .istore_n 1, 1), (10, .aload_n 0, 1), (11, .getfield 158, 3), (14, .iconst (-1), 1), (15, .if_icmp .eq 5, 3), (18, .iconst 0, 1), (19, .ireturn, 1), (20, .aload_n 0, 1), (21, .invokevirtual 192, 3), (24, .istore_n 2, 1), (25, .iload_n 2, 1), (26, .ifCond .le 10, 3), (29, .aload_n 0, 1), (30, .invokevirtual 192, 3), (33, .goto 4, 3), (36, .iconst 0, 1), (37, .istore_n 3, 1), (38, .iload_n 1, 1), (39, .bipush 27, 2), (41, .iload_n 2, 1), (42, .imul, 1), (43, .iadd, 1), (44, .iload_n 3, 1), (45, .iadd, 1), (46, .ireturn, 1)])
def t_Mo_readsDigits : am_T := (⟨RX9, "readsDigits", "(Z)I"⟩, prog_11_method_42_code, 4, (some .int), 9, (2, 43, 2), [(0, .aload_n 0, 1), (1, .getfield 155, 3), (4, .istore_n 2, 1), (5, .iconst 0, 1), (6, .istore_n 3, 1), (7, .aload_n 0, 1), (8, .aload_n 0, 1), (9, .getfield 155, 3), (12, .invokevirtual 185, 3), (15, .ifCond .eq 43, 3), (18, .aload_n 0, 1), (19, .getfield 155, 3), (22, .iload_n 2, 1), (23, .iconst 3, 1), (24, .iadd, 1), (25, .if_icmp .ge 33, 3), (28, .bipush 10, 2), (30, .iload_n 3, 1), (31, .imul, 1), (32, .aload_n 0, 1), (33, .aload_n 0, 1), (34, .getfield 155, 3), (37, .invokevirtual 152, 3), (40, .iadd, 1), (41, .bipush 48, 2), (43, .isub, 1), (44, .istore_n 3, 1), (45, .aload_n 0, 1), (46, .dup, 1), (47, .getfield 155, 3), (50, .iconst 1, 1), (51, .iadd, 1), (52, .putfield 155, 3), (55, .goto (-48), 3), (58, .aload_n 0, 1), (59, .getfield 155, 3), (62, .iload_n 2, 1), (63, .if_icmp .eq 11, 3), (66, .iload_n 1, 1), (67, .ifCond .eq 12, 3), (70, .iload_n 3, 1), (71, .ifCond .ne 8, 3), (74, .aload_n 0, 1), (75, .iload_n 2, 1), (76, .invokevirtual 181, 3), (79, .aload_n 0, 1), (80, .aload_n 0, 1), (81, .getfield 155, 3), (84, .invokevirtual 185, 3), (87, .ifCond .eq 11, 3), (90, .aload_n 0, 1), (91, .aload_n 0, 1), (92, .getfield 155, 3), (95, .invokevirtual 181, 3), (98, .iload_n 3, 1), (99, .ireturn, 1)])
def t_Mo_isDigit : am_T := (⟨RX9, "isDigit", "(I)Z"⟩, prog_11_method_34_code, 2, (some .boolean), 9, (1, 22, 2), [(0, .aload_n 0, 1), (1, .iload_n 1, 1), (2, .invokevirtual 152, 3), (5, .bipush 48, 2), (7, .bipush 57, 2), (9, .invokestatic 76, 3), (12, .ireturn, 1)])
def t_Mo_letter : am_T := (⟨RX9, "letter", "()I"⟩, prog_11_method_43_code, 1, (some .int), 9, (1, 22, 1), [(0, .aload_n 0, 1), (1, .aload_n 0, 1), (2, .getfield 155, 3), (5, .invokevirtual 152, 3), (8, .bipush 65, 2), (10, .bipush 90, 2), (12, .invokestatic 76, 3), (15, .ifCond .eq 30, 3), (18, .aload_n 0, 1), (19, .dup, 1), (20, .getfield 155, 3), (23, .iconst 1, 1), (24, .iadd, 1), (25, .putfield 155, 3), (28, .aload_n 0, 1), (29, .getfield 52, 3), (32, .aload_n 0, 1), (33, .getfield 155, 3), (36, .iconst 1, 1), (37, .isub, 1), (38, .iaload, 1), (39, .bipush 65, 2), (41, .isub, 1), (42, .iconst 1, 1), (43, .iadd, 1), (44, .ireturn, 1), (45, .iconst 0, 1), (46, .ireturn, 1)])
def t_Mo_readsWords : am_T := (⟨RX9, "readsWords", "()V"⟩, prog_11_method_48_code, 4, none, 9, (4, 89, 1), [(0, .iconst 0, 1), (1, .istore_n 1, 1), (2, .aload_n 0, 1), (3, .invokevirtual 174, 3), (6, .aload_n 0, 1), (7, .getfield 158, 3), (10, .iconst (-1), 1), (11, .if_icmp .ne 119, 3), (14, .aload_n 0, 1), (15, .aload_n 0, 1), (16, .getfield 155, 3), (19, .invokevirtual 185, 3), (22, .ifCond .ne 16, 3), (25, .aload_n 0, 1), (26, .aload_n 0, 1), (27, .getfield 155, 3), (30, .invokevirtual 152, 3), (33, .bipush 64, 2), (35, .if_icmp .ne 95, 3), (38, .iload_n 1, 1), (39, .bipush 6, 2), (41, .if_icmp .ne 12, 3), (44, .aload_n 0, 1), (45, .aload_n 0, 1), (46, .getfield 155, 3), (49, .invokevirtual 181, 3), (52, .return_, 1), (53, .aload_n 0, 1), (54, .aload_n 0, 1), (55, .getfield 155, 3), (58, .invokevirtual 152, 3), (61, .bipush 64, 2), (63, .if_icmp .ne 7, 3), (66, .iconst 1, 1), (67, .goto 4, 3), (70, .iconst 0, 1), (71, .istore_n 2, 1), (72, .aload_n 0, 1), (73, .dup, 1), (74, .getfield 155, 3), (77, .iload_n 2, 1), (78, .ifCond .eq 7, 3), (81, .iconst 1, 1), (82, .goto 4, 3), (85, .iconst 0, 1), (86, .iadd, 1), (87, .putfield 155, 3), (90, .iload_n 2, 1), (91, .ifCond .eq 14, 3), (94, .sipush 1000, 3), (97, .aload_n 0, 1), (98, .invokevirtual 195, 3), (101, .iadd, 1), (102, .goto 8, 3), (105, .aload_n 0, 1), (106, .iconst 0, 1), (107, .invokevirtual 188, 3), (110, .istore_n 3, 1), (111, .aload_n 0, 1), (112, .bipush 6, 2), (114, .iload_n 1, 1), (115, .iadd, 1), (116, .iload_n 3, 1), (117, .invokevirtual 201, 3), (120, .iinc 1 1, 3), (123, .aload_n 0, 1), (124, .invokevirtual 174, 3), (127, .goto (-121), 3), (130, .aload_n 0, 1), (131, .iconst 5, 1), (132, .iload_n 1, 1), (133, .invokevirtual 201, 3), (136, .return_, 1)])
def t_Mo_needsWord : am_T := (⟨RX9, "needsWord", "(J)V"⟩, prog_11_method_41_code, 4, none, 9, (3, 65, 2), [(0, .aload_n 0, 1), (1, .invokevirtual 174, 3), (4, .aload_n 0, 1), (5, .getfield 155, 3), (8, .istore_n 3, 1), (9, .aload_n 0, 1), (10, .getfield 158, 3), (13, .iconst (-1), 1), (14, .if_icmp .ne 17, 3), (17, .aload_n 0, 1), (18, .invokevirtual 177, 3), (21, .lload_n 1, 1), (22, .lcmp, 1), (23, .ifCond .eq 8, 3), (26, .aload_n 0, 1), (27, .iload_n 3, 1), (28, .invokevirtual 181, 3), (31, .return_, 1)])
def t_Mo_plainBehindBlanks : am_T := (⟨RX9, "plainBehindBlanks", "()I"⟩, prog_11_method_46_code, 1, (some .int), 9, (3, 66, 1), [(0, .aload_n 0, 1), (1, .invokevirtual 174, 3), (4, .aload_n 0, 1), (5, .getfield 158, 3), (8, .iconst (-1), 1), (9, .if_icmp .ne 11, 3), (12, .aload_n 0, 1), (13, .iconst 0, 1), (14, .invokevirtual 188, 3), (17, .goto 4, 3), (20, .iconst 0, 1), (21, .ireturn, 1)])
def t_Mo_readsSaving : am_T := (⟨RX9, "readsSaving", "()V"⟩, prog_11_method_49_code, 2, none, 9, (3, 65, 1), [(0, .aload_n 0, 1), (1, .invokevirtual 174, 3), (4, .aload_n 0, 1), (5, .getfield 158, 3), (8, .iconst (-1), 1), (9, .if_icmp .ne 58, 3), (12, .aload_n 0, 1), (13, .aload_n 0, 1), (14, .getfield 155, 3), (17, .invokevirtual 161, 3), (20, .ifCond .eq 47, 3), (23, .aload_n 0, 1), (24, .getfield 155, 3), (27, .istore_n 1, 1), (28, .aload_n 0, 1), (29, .invokevirtual 177, 3), (32, .bipush 115, 2), (34, .bipush 97, 2), (36, .bipush 118, 2), (38, .bipush 105, 2), (40, .bipush 110, 2), (42, .bipush 103, 2), (44, .iconst 0, 1), (45, .iconst 0, 1), (46, .invokestatic 170, 3), (49, .lcmp, 1), (50, .ifCond .ne 12, 3), (53, .aload_n 0, 1), (54, .iconst 4, 1), (55, .iconst 1, 1), (56, .invokevirtual 201, 3), (59, .goto 8, 3), (62, .aload_n 0, 1), (63, .iload_n 1, 1), (64, .invokevirtual 181, 3), (67, .return_, 1)])
def t_Mo_adds : am_T := (⟨RX9, "adds", "(I)I"⟩, prog_11_method_53_code, 5, (some .int), 9, (3, 65, 2), [(0, .aload_n 0, 1), (1, .invokevirtual 227, 3), (4, .istore_n 2, 1), (5, .aload_n 0, 1), (6, .getfield 7, 3), (9, .iconst 0, 1), (10, .iaload, 1), (11, .bipush 20, 2), (13, .if_icmp .eq 28, 3), (16, .aload_n 0, 1), (17, .invokevirtual 89, 3), (20, .aload_n 0, 1), (21, .getfield 198, 3), (24, .iadd, 1), (25, .bipush 120, 2), (27, .if_icmp .gt 14, 3), (30, .aload_n 0, 1), (31, .invokevirtual 97, 3), (34, .iload_n 2, 1), (35, .iadd, 1), (36, .bipush 40, 2), (38, .if_icmp .le 6, 3), (41, .bipush (-4), 2), (43, .ireturn, 1), (44, .aload_n 0, 1), (45, .invokevirtual 230, 3), (48, .bipush 61, 2), (50, .bipush 12, 2), (52, .aload_n 0, 1), (53, .invokevirtual 89, 3), (56, .imul, 1), (57, .iadd, 1), (58, .istore_n 3, 1), (59, .iconst 0, 1), (60, .istore 4, 2), (62, .iload 4, 2), (64, .bipush 12, 2), (66, .aload_n 0, 1), (67, .getfield 198, 3), (70, .imul, 1), (71, .if_icmp .ge 25, 3), (74, .aload_n 0, 1), (75, .getfield 7, 3), (78, .iload_n 3, 1), (79, .iload 4, 2), (81, .iadd, 1), (82, .aload_n 0, 1), (83, .getfield 55, 3), (86, .iload 4, 2), (88, .iaload, 1), (89, .iastore, 1), (90, .iinc 4 1, 3), (93, .goto (-31), 3), (96, .aload_n 0, 1), (97, .getfield 7, 3), (100, .iconst 0, 1), (101, .iaload, 1), (102, .istore 4, 2), (104, .aload_n 0, 1), (105, .getfield 7, 3), (108, .iconst 1, 1), (109, .iload 4, 2), (111, .iadd, 1), (112, .iload_n 1, 1), (113, .iastore, 1), (114, .aload_n 0, 1), (115, .getfield 7, 3), (118, .bipush 21, 2), (120, .iload 4, 2), (122, .iadd, 1), (123, .iconst 0, 1), (124, .iastore, 1), (125, .aload_n 0, 1), (126, .getfield 7, 3), (129, .bipush 41, 2), (131, .iload 4, 2), (133, .iadd, 1), (134, .aload_n 0, 1), (135, .getfield 198, 3), (138, .iastore, 1), (139, .aload_n 0, 1), (140, .getfield 7, 3), (143, .iconst 0, 1), (144, .dup2, 1), (145, .iaload, 1), (146, .iconst 1, 1), (147, .iadd, 1), (148, .iastore, 1), (149, .iload 4, 2), (151, .ireturn, 1)])
def t_Mo_readInserts : am_T := (⟨RX9, "readInserts", "()I"⟩, prog_11_method_52_code, 3, (some .int), 9, (0, 0, 1), [(0, .iconst 0, 1), (1, .istore_n 1, 1), (2, .iconst 0, 1), (3, .istore_n 2, 1), (4, .iload_n 2, 1), (5, .aload_n 0, 1), (6, .getfield 198, 3), (9, .if_icmp .ge 29, 3), (12, .iload_n 1, 1), (13, .aload_n 0, 1), (14, .getfield 55, 3), (17, .bipush 12, 2), (19, .iload_n 2, 1), (20, .imul, 1), (21, .iaload, 1), (22, .ifCond .ne 7, 3), (25, .iconst 1, 1), (26, .goto 4, 3), (29, .iconst 0, 1), (30, .iadd, 1), (31, .istore_n 1, 1), (32, .iinc 2 1, 3), (35, .goto (-31), 3), (38, .iload_n 1, 1), (39, .ireturn, 1)])
def t_Mo_operations : am_T := (⟨RX9, "operations", "()I"⟩, prog_11_method_7_code, 3, (some .int), 9, (0, 0, 1), [(0, .iconst 0, 1), (1, .istore_n 1, 1), (2, .iconst 0, 1), (3, .istore_n 2, 1), (4, .iload_n 2, 1), (5, .aload_n 0, 1), (6, .getfield 7, 3), (9, .iconst 0, 1), (10, .iaload, 1), (11, .if_icmp .ge 21, 3), (14, .iload_n 1, 1), (15, .aload_n 0, 1), (16, .getfield 7, 3), (19, .bipush 41, 2), (21, .iload_n 2, 1), (22, .iadd, 1), (23, .iaload, 1), (24, .iadd, 1), (25, .istore_n 1, 1), (26, .iinc 2 1, 3), (29, .goto (-25), 3), (32, .iload_n 1, 1), (33, .ireturn, 1)])
def t_Mo_identities : am_T := (⟨RX9, "identities", "()I"⟩, prog_11_method_12_code, 1, (some .int), 9, (2, 45, 1), [(0, .aload_n 0, 1), (1, .aload_n 0, 1), (2, .invokevirtual 89, 3), (5, .invokevirtual 93, 3), (8, .ireturn, 1)])
def t_Mo_identitiesAhead : am_T := (⟨RX9, "identitiesAhead", "(I)I"⟩, prog_11_method_11_code, 4, (some .int), 9, (1, 22, 2), [(0, .iconst 0, 1), (1, .istore_n 2, 1), (2, .iconst 0, 1), (3, .istore_n 3, 1), (4, .iload_n 3, 1), (5, .iload_n 1, 1), (6, .if_icmp .ge 26, 3), (9, .iload_n 2, 1), (10, .aload_n 0, 1), (11, .iload_n 3, 1), (12, .iconst 0, 1), (13, .invokevirtual 85, 3), (16, .ifCond .ne 7, 3), (19, .iconst 1, 1), (20, .goto 4, 3), (23, .iconst 0, 1), (24, .iadd, 1), (25, .istore_n 2, 1), (26, .iinc 3 1, 3), (29, .goto (-25), 3), (32, .iload_n 2, 1), (33, .ireturn, 1)])
def t_Mo_part : am_T := (⟨RX9, "part", "(II)I"⟩, prog_11_method_10_code, 3, (some .int), 9, (0, 0, 3), [(0, .aload_n 0, 1), (1, .getfield 7, 3), (4, .bipush 61, 2), (6, .bipush 12, 2), (8, .iload_n 1, 1), (9, .imul, 1), (10, .iadd, 1), (11, .iload_n 2, 1), (12, .iadd, 1), (13, .iaload, 1), (14, .ireturn, 1)])
def t_Mo_keeps : am_T := (⟨RX9, "keeps", "()V"⟩, prog_11_method_14_code, 2, none, 9, (0, 0, 1), [(0, .aload_n 0, 1), (1, .getfield 100, 3), (4, .bipush 10, 2), (6, .if_icmp .ne 44, 3), (9, .iconst 0, 1), (10, .istore_n 1, 1), (11, .iload_n 1, 1), (12, .sipush 13509, 3), (15, .if_icmp .ge 25, 3), (18, .aload_n 0, 1), (19, .getfield 13, 3), (22, .iload_n 1, 1), (23, .aload_n 0, 1), (24, .getfield 13, 3), (27, .iload_n 1, 1), (28, .sipush 1501, 3), (31, .iadd, 1), (32, .iaload, 1), (33, .iastore, 1), (34, .iinc 1 1, 3), (37, .goto (-26), 3), (40, .aload_n 0, 1), (41, .dup, 1), (42, .getfield 100, 3), (45, .iconst 1, 1), (46, .isub, 1), (47, .putfield 100, 3), (50, .iconst 0, 1), (51, .istore_n 1, 1), (52, .iload_n 1, 1), (53, .sipush 1501, 3), (56, .if_icmp .ge 30, 3), (59, .aload_n 0, 1), (60, .getfield 13, 3), (63, .sipush 1501, 3), (66, .aload_n 0, 1), (67, .getfield 100, 3), (70, .imul, 1), (71, .iload_n 1, 1), (72, .iadd, 1), (73, .aload_n 0, 1), (74, .getfield 7, 3), (77, .iload_n 1, 1), (78, .iaload, 1), (79, .iastore, 1), (80, .iinc 1 1, 3), (83, .goto (-31), 3), (86, .aload_n 0, 1), (87, .dup, 1), (88, .getfield 100, 3), (91, .iconst 1, 1), (92, .iadd, 1), (93, .putfield 100, 3), (96, .return_, 1)])
def t_Mo_revoke : am_T := (⟨RX9, "revoke", "(IZ)I"⟩, prog_11_method_55_code, 3, (some .int), 9, (2, 43, 3), [(0, .aload_n 0, 1), (1, .iload_n 1, 1), (2, .invokevirtual 239, 3), (5, .ifCond .ne 6, 3), (8, .bipush (-2), 2), (10, .ireturn, 1), (11, .aload_n 0, 1), (12, .getfield 7, 3), (15, .bipush 21, 2), (17, .iload_n 1, 1), (18, .iadd, 1), (19, .iaload, 1), (20, .iconst 1, 1), (21, .if_icmp .ne 7, 3), (24, .iconst 1, 1), (25, .goto 4, 3), (28, .iconst 0, 1), (29, .iload_n 2, 1), (30, .if_icmp .ne 6, 3), (33, .bipush (-3), 2), (35, .ireturn, 1), (36, .aload_n 0, 1), (37, .invokevirtual 230, 3), (40, .aload_n 0, 1), (41, .getfield 7, 3), (44, .bipush 21, 2), (46, .iload_n 1, 1), (47, .iadd, 1), (48, .iload_n 2, 1), (49, .ifCond .eq 7, 3), (52, .iconst 1, 1), (53, .goto 4, 3), (56, .iconst 0, 1), (57, .iastore, 1), (58, .iconst 1, 1), (59, .ireturn, 1)])
def t_Mo_isAmendment : am_T := (⟨RX9, "isAmendment", "(I)Z"⟩, prog_11_method_6_code, 2, (some .boolean), 9, (1, 22, 2), [(0, .iload_n 1, 1), (1, .iconst 0, 1), (2, .aload_n 0, 1), (3, .getfield 7, 3), (6, .iconst 0, 1), (7, .iaload, 1), (8, .iconst 1, 1), (9, .isub, 1), (10, .invokestatic 76, 3), (13, .ireturn, 1)])
def t_Mo_commence : am_T := (⟨RX9, "commence", "(II)I"⟩, prog_11_method_56_code, 4, (some .int), 9, (2, 43, 3), [(0, .aload_n 0, 1), (1, .iload_n 1, 1), (2, .invokevirtual 239, 3), (5, .ifCond .eq 10, 3), (8, .iload_n 2, 1), (9, .invokestatic 80, 3), (12, .ifCond .ne 6, 3), (15, .bipush (-2), 2), (17, .ireturn, 1), (18, .aload_n 0, 1), (19, .invokevirtual 230, 3), (22, .aload_n 0, 1), (23, .getfield 7, 3), (26, .iconst 1, 1), (27, .iload_n 1, 1), (28, .iadd, 1), (29, .iaload, 1), (30, .istore_n 3, 1), (31, .aload_n 0, 1), (32, .getfield 7, 3), (35, .iconst 1, 1), (36, .iload_n 1, 1), (37, .iadd, 1), (38, .iload_n 2, 1), (39, .iastore, 1), (40, .iload_n 3, 1), (41, .ireturn, 1)])
def t_Mo_withdraw : am_T := (⟨RX9, "withdraw", "()I"⟩, prog_11_method_57_code, 1, (some .int), 9, (1, 21, 1), [(0, .aload_n 0, 1), (1, .getfield 7, 3), (4, .iconst 0, 1), (5, .iaload, 1), (6, .ifCond .ne 6, 3), (9, .bipush (-3), 2), (11, .ireturn, 1), (12, .aload_n 0, 1), (13, .invokevirtual 230, 3), (16, .aload_n 0, 1), (17, .getfield 7, 3), (20, .iconst 0, 1), (21, .dup2, 1), (22, .iaload, 1), (23, .iconst 1, 1), (24, .isub, 1), (25, .iastore, 1), (26, .aload_n 0, 1), (27, .getfield 7, 3), (30, .iconst 0, 1), (31, .iaload, 1), (32, .ireturn, 1)])
def t_Mo_undo : am_T := (⟨RX9, "undo", "()I"⟩, prog_11_method_58_code, 2, (some .int), 9, (0, 0, 1), [(0, .aload_n 0, 1), (1, .getfield 100, 3), (4, .ifCond .ne 6, 3), (7, .bipush (-3), 2), (9, .ireturn, 1), (10, .aload_n 0, 1), (11, .dup, 1), (12, .getfield 100, 3), (15, .iconst 1, 1), (16, .isub, 1), (17, .putfield 100, 3), (20, .iconst 0, 1), (21, .istore_n 1, 1), (22, .iload_n 1, 1), (23, .sipush 1501, 3), (26, .if_icmp .ge 30, 3), (29, .aload_n 0, 1), (30, .getfield 7, 3), (33, .iload_n 1, 1), (34, .aload_n 0, 1), (35, .getfield 13, 3), (38, .sipush 1501, 3), (41, .aload_n 0, 1), (42, .getfield 100, 3), (45, .imul, 1), (46, .iload_n 1, 1), (47, .iadd, 1), (48, .iaload, 1), (49, .iastore, 1), (50, .iinc 1 1, 3), (53, .goto (-31), 3), (56, .aload_n 0, 1), (57, .getfield 100, 3), (60, .ireturn, 1)])
def t_Mo_amendment : am_T := (⟨RX9, "amendment", "(II)I"⟩, prog_11_method_59_code, 6, (some .int), 9, (7, 165, 3), [(0, .aload_n 0, 1), (1, .iload_n 1, 1), (2, .invokevirtual 239, 3), (5, .ifCond .eq 12, 3), (8, .iload_n 2, 1), (9, .iconst 0, 1), (10, .iconst 3, 1), (11, .invokestatic 76, 3), (14, .ifCond .ne 6, 3), (17, .bipush (-2), 2), (19, .ireturn, 1), (20, .iload_n 2, 1), (21, .iconst 3, 1), (22, .if_icmp .ge 45, 3), (25, .iload_n 2, 1), (26, .ifCond .ne 14, 3), (29, .aload_n 0, 1), (30, .getfield 7, 3), (33, .iconst 1, 1), (34, .iload_n 1, 1), (35, .iadd, 1), (36, .iaload, 1), (37, .goto 29, 3), (40, .iload_n 2, 1), (41, .iconst 1, 1), (42, .if_icmp .ne 15, 3), (45, .aload_n 0, 1), (46, .getfield 7, 3), (49, .bipush 21, 2), (51, .iload_n 1, 1), (52, .iadd, 1), (53, .iaload, 1), (54, .goto 12, 3), (57, .aload_n 0, 1), (58, .getfield 7, 3), (61, .bipush 41, 2), (63, .iload_n 1, 1), (64, .iadd, 1), (65, .iaload, 1), (66, .ireturn, 1), (67, .aload_n 0, 1), (68, .invokevirtual 242, 3), (71, .iconst 0, 1), (72, .istore_n 3, 1), (73, .aload_n 0, 1), (74, .iload_n 1, 1), (75, .invokevirtual 128, 3), (78, .istore 4, 2), (80, .iload 4, 2), (82, .istore 5, 2), (84, .iload 5, 2), (86, .iload 4, 2), (88, .aload_n 0, 1), (89, .getfield 7, 3), (92, .bipush 41, 2), (94, .iload_n 1, 1), (95, .iadd, 1), (96, .iaload, 1), (97, .iadd, 1), (98, .if_icmp .ge 26, 3), (101, .iload_n 3, 1), (102, .aload_n 0, 1), (103, .iload 5, 2), (105, .invokevirtual 245, 3), (108, .ifCond .ne 7, 3), (111, .iconst 1, 1), (112, .goto 4, 3), (115, .iconst 0, 1), (116, .iadd, 1), (117, .istore_n 3, 1), (118, .iinc 5 1, 3), (121, .goto (-37), 3), (124, .iload_n 3, 1), (125, .ireturn, 1)])
def t_Mo_fullLaw : am_T := (⟨RX9, "fullLaw", "()V"⟩, prog_11_method_25_code, 1, none, 9, (6, 145, 1), [(0, .aload_n 0, 1), (1, .sipush 9999, 3), (4, .iconst (-1), 1), (5, .invokevirtual 140, 3), (8, .return_, 1)])
def t_Mo_laws : am_T := (⟨RX9, "laws", "(II)V"⟩, prog_11_method_24_code, 3, none, 9, (5, 123, 3), [(0, .aload_n 0, 1), (1, .invokevirtual 134, 3), (4, .aload_n 0, 1), (5, .iload_n 1, 1), (6, .iload_n 2, 1), (7, .invokevirtual 137, 3), (10, .return_, 1)])
def t_Mo_offAsRevoked : am_T := (⟨RX9, "offAsRevoked", "()V"⟩, prog_11_method_15_code, 2, none, 9, (0, 0, 1), [(0, .iconst 0, 1), (1, .istore_n 1, 1), (2, .iload_n 1, 1), (3, .bipush 20, 2), (5, .if_icmp .ge 24, 3), (8, .aload_n 0, 1), (9, .getfield 22, 3), (12, .iload_n 1, 1), (13, .aload_n 0, 1), (14, .getfield 7, 3), (17, .bipush 21, 2), (19, .iload_n 1, 1), (20, .iadd, 1), (21, .iaload, 1), (22, .iastore, 1), (23, .iinc 1 1, 3), (26, .goto (-24), 3), (29, .return_, 1)])
def t_Mo_consolidates : am_T := (⟨RX9, "consolidates", "(II)V"⟩, prog_11_method_23_code, 8, none, 9, (4, 96, 3), [(0, .iconst 0, 1), (1, .istore_n 3, 1), (2, .iload_n 3, 1), (3, .bipush 40, 2), (5, .if_icmp .ge 23, 3), (8, .aload_n 0, 1), (9, .getfield 25, 3), (12, .iload_n 3, 1), (13, .iconst 0, 1), (14, .iastore, 1), (15, .aload_n 0, 1), (16, .getfield 31, 3), (19, .iload_n 3, 1), (20, .iconst 0, 1), (21, .iastore, 1), (22, .iinc 3 1, 3), (25, .goto (-23), 3), (28, .iconst 0, 1), (29, .istore_n 3, 1), (30, .iload_n 3, 1), (31, .bipush 120, 2), (33, .if_icmp .ge 23, 3), (36, .aload_n 0, 1), (37, .getfield 40, 3), (40, .iload_n 3, 1), (41, .iconst (-1), 1), (42, .iastore, 1), (43, .aload_n 0, 1), (44, .getfield 43, 3), (47, .iload_n 3, 1), (48, .iconst (-1), 1), (49, .iastore, 1), (50, .iinc 3 1, 3), (53, .goto (-23), 3), (56, .aload_n 0, 1), (57, .iconst 0, 1), (58, .putfield 117, 3), (61, .aload_n 0, 1), (62, .iconst (-1), 1), (63, .iconst (-1), 1), (64, .iload_n 1, 1), (65, .invokevirtual 124, 3), (68, .istore_n 3, 1), (69, .iload_n 3, 1), (70, .iconst (-1), 1), (71, .if_icmp .eq 101, 3), (74, .aload_n 0, 1), (75, .getfield 7, 3), (78, .iconst 1, 1), (79, .iload_n 3, 1), (80, .iadd, 1), (81, .iaload, 1), (82, .istore 4, 2), (84, .aload_n 0, 1), (85, .iload_n 3, 1), (86, .invokevirtual 128, 3), (89, .istore 5, 2), (91, .iload 5, 2), (93, .istore 6, 2), (95, .iload 6, 2), (97, .iload 5, 2), (99, .aload_n 0, 1), (100, .getfield 7, 3), (103, .bipush 41, 2), (105, .iload_n 3, 1), (106, .iadd, 1), (107, .iaload, 1), (108, .iadd, 1), (109, .if_icmp .ge 51, 3), (112, .aload_n 0, 1), (113, .iload 6, 2), (115, .iconst 4, 1), (116, .invokevirtual 85, 3), (119, .iconst 1, 1), (120, .if_icmp .ne 18, 3), (123, .iload_n 2, 1), (124, .iconst (-1), 1), (125, .if_icmp .eq 13, 3), (128, .iload_n 2, 1), (129, .iload 4, 2), (131, .if_icmp .ge 7, 3), (134, .iconst 1, 1), (135, .goto 4, 3), (138, .iconst 0, 1), (139, .istore 7, 2), (141, .iload 7, 2), (143, .ifCond .ne 11, 3), (146, .aload_n 0, 1), (147, .iload 6, 2), (149, .iload 4, 2), (151, .invokevirtual 131, 3), (154, .iinc 6 1, 3), (157, .goto (-62), 3), (160, .aload_n 0, 1), (161, .iload 4, 2), (163, .iload_n 3, 1), (164, .iload_n 1, 1), (165, .invokevirtual 124, 3), (168, .istore_n 3, 1), (169, .goto (-100), 3), (172, .return_, 1)])
def t_Mo_nextAmendment : am_T := (⟨RX9, "nextAmendment", "(III)I"⟩, prog_11_method_22_code, 9, (some .int), 9, (0, 0, 4), [(0, .iconst (-1), 1), (1, .istore 4, 2), (3, .aload_n 0, 1), (4, .getfield 7, 3), (7, .iconst 0, 1), (8, .iaload, 1), (9, .iconst 1, 1), (10, .isub, 1), (11, .istore 5, 2), (13, .iload 5, 2), (15, .ifCond .lt 107, 3), (18, .aload_n 0, 1), (19, .getfield 7, 3), (22, .iconst 1, 1), (23, .iload 5, 2), (25, .iadd, 1), (26, .iaload, 1), (27, .istore 6, 2), (29, .iload 6, 2), (31, .iload_n 1, 1), (32, .if_icmp .gt 15, 3), (35, .iload 6, 2), (37, .iload_n 1, 1), (38, .if_icmp .ne 13, 3), (41, .iload 5, 2), (43, .iload_n 2, 1), (44, .if_icmp .le 7, 3), (47, .iconst 1, 1), (48, .goto 4, 3), (51, .iconst 0, 1), (52, .istore 7, 2), (54, .aload_n 0, 1), (55, .getfield 22, 3), (58, .iload 5, 2), (60, .iaload, 1), (61, .ifCond .ne 38, 3), (64, .iload 6, 2), (66, .iload_n 3, 1), (67, .if_icmp .gt 32, 3), (70, .iload 7, 2), (72, .ifCond .eq 27, 3), (75, .iload 4, 2), (77, .iconst (-1), 1), (78, .if_icmp .eq 17, 3), (81, .iload 6, 2), (83, .aload_n 0, 1), (84, .getfield 7, 3), (87, .iconst 1, 1), (88, .iload 4, 2), (90, .iadd, 1), (91, .iaload, 1), (92, .if_icmp .gt 7, 3), (95, .iconst 1, 1), (96, .goto 4, 3), (99, .iconst 0, 1), (100, .istore 8, 2), (102, .iload 8, 2), (104, .ifCond .eq 8, 3), (107, .iload 5, 2), (109, .goto 5, 3), (112, .iload 4, 2), (114, .istore 4, 2), (116, .iinc 5 (-1), 3), (119, .goto (-106), 3), (122, .iload 4, 2), (124, .ireturn, 1)])
def t_Mo_firstOf : am_T := (⟨RX9, "firstOf", "(I)I"⟩, prog_11_method_8_code, 4, (some .int), 9, (0, 0, 2), [(0, .iconst 0, 1), (1, .istore_n 2, 1), (2, .iconst 0, 1), (3, .istore_n 3, 1), (4, .iload_n 3, 1), (5, .iload_n 1, 1), (6, .if_icmp .ge 21, 3), (9, .iload_n 2, 1), (10, .aload_n 0, 1), (11, .getfield 7, 3), (14, .bipush 41, 2), (16, .iload_n 3, 1), (17, .iadd, 1), (18, .iaload, 1), (19, .iadd, 1), (20, .istore_n 2, 1), (21, .iinc 3 1, 3), (24, .goto (-20), 3), (27, .iload_n 2, 1), (28, .ireturn, 1)])
def t_Mo_carriesOut : am_T := (⟨RX9, "carriesOut", "(II)V"⟩, prog_11_method_21_code, 7, none, 9, (3, 70, 3), [(0, .aload_n 0, 1), (1, .iload_n 1, 1), (2, .iconst 0, 1), (3, .invokevirtual 85, 3), (6, .istore_n 3, 1), (7, .aload_n 0, 1), (8, .aload_n 0, 1), (9, .iload_n 1, 1), (10, .iconst 1, 1), (11, .invokevirtual 85, 3), (14, .invokevirtual 104, 3), (17, .istore 4, 2), (19, .aload_n 0, 1), (20, .getfield 40, 3), (23, .iload_n 1, 1), (24, .aload_n 0, 1), (25, .iload_n 1, 1), (26, .iload 4, 2), (28, .invokevirtual 114, 3), (31, .iastore, 1), (32, .aload_n 0, 1), (33, .getfield 46, 3), (36, .aload_n 0, 1), (37, .getfield 117, 3), (40, .iload_n 1, 1), (41, .iastore, 1), (42, .aload_n 0, 1), (43, .dup, 1), (44, .getfield 117, 3), (47, .iconst 1, 1), (48, .iadd, 1), (49, .putfield 117, 3), (52, .aload_n 0, 1), (53, .getfield 40, 3), (56, .iload_n 1, 1), (57, .iaload, 1), (58, .ifCond .le 4, 3), (61, .return_, 1), (62, .iload_n 3, 1), (63, .ifCond .ne 11, 3), (66, .aload_n 0, 1), (67, .iload_n 1, 1), (68, .invokevirtual 93, 3), (71, .goto 5, 3), (74, .iload 4, 2), (76, .istore 4, 2), (78, .aload_n 0, 1), (79, .getfield 43, 3), (82, .iload_n 1, 1), (83, .iload 4, 2), (85, .iastore, 1), (86, .aload_n 0, 1), (87, .getfield 37, 3), (90, .iload 4, 2), (92, .iload_n 2, 1), (93, .iastore, 1), (94, .iload_n 3, 1), (95, .iconst 2, 1), (96, .if_icmp .ge 10, 3), (99, .aload_n 0, 1), (100, .iload_n 1, 1), (101, .iload 4, 2), (103, .invokevirtual 120, 3), (106, .iload_n 3, 1), (107, .ifCond .ne 24, 3), (110, .aload_n 0, 1), (111, .getfield 25, 3), (114, .iload 4, 2), (116, .iconst 1, 1), (117, .iastore, 1), (118, .aload_n 0, 1), (119, .getfield 28, 3), (122, .iload 4, 2), (124, .aload_n 0, 1), (125, .iload_n 1, 1), (126, .iconst 1, 1), (127, .invokevirtual 85, 3), (130, .iastore, 1), (131, .iload_n 3, 1), (132, .iconst 2, 1), (133, .if_icmp .ne 11, 3), (136, .aload_n 0, 1), (137, .getfield 25, 3), (140, .iload 4, 2), (142, .iconst 0, 1), (143, .iastore, 1), (144, .iload_n 3, 1), (145, .iconst 3, 1), (146, .if_icmp .ne 16, 3), (149, .aload_n 0, 1), (150, .getfield 28, 3), (153, .iload 4, 2), (155, .aload_n 0, 1), (156, .iload_n 1, 1), (157, .iconst 2, 1), (158, .invokevirtual 85, 3), (161, .iastore, 1), (162, .iconst 0, 1), (163, .istore 5, 2), (165, .iload 5, 2), (167, .aload_n 0, 1), (168, .getfield 31, 3), (171, .iload 4, 2), (173, .iaload, 1), (174, .if_icmp .ge 63, 3), (177, .iload_n 3, 1), (178, .iconst 4, 1), (179, .if_icmp .ne 58, 3), (182, .bipush 6, 2), (184, .iload 4, 2), (186, .imul, 1), (187, .iload 5, 2), (189, .iadd, 1), (190, .istore 6, 2), (192, .aload_n 0, 1), (193, .getfield 34, 3), (196, .iload 6, 2), (198, .aload_n 0, 1), (199, .getfield 34, 3), (202, .iload 6, 2), (204, .iaload, 1), (205, .aload_n 0, 1), (206, .iload_n 1, 1), (207, .iconst 2, 1), (208, .invokevirtual 85, 3), (211, .if_icmp .ne 12, 3), (214, .aload_n 0, 1), (215, .iload_n 1, 1), (216, .iconst 3, 1), (217, .invokevirtual 85, 3), (220, .goto 10, 3), (223, .aload_n 0, 1), (224, .getfield 34, 3), (227, .iload 6, 2), (229, .iaload, 1), (230, .iastore, 1), (231, .iinc 5 1, 3), (234, .goto (-69), 3), (237, .return_, 1)])
def t_Mo_withCode : am_T := (⟨RX9, "withCode", "(I)I"⟩, prog_11_method_16_code, 4, (some .int), 9, (0, 0, 2), [(0, .iconst (-1), 1), (1, .istore_n 2, 1), (2, .iconst 0, 1), (3, .istore_n 3, 1), (4, .iload_n 3, 1), (5, .bipush 40, 2), (7, .if_icmp .ge 35, 3), (10, .aload_n 0, 1), (11, .getfield 25, 3), (14, .iload_n 3, 1), (15, .iaload, 1), (16, .iconst 1, 1), (17, .if_icmp .ne 17, 3), (20, .aload_n 0, 1), (21, .getfield 28, 3), (24, .iload_n 3, 1), (25, .iaload, 1), (26, .iload_n 1, 1), (27, .if_icmp .ne 7, 3), (30, .iload_n 3, 1), (31, .goto 4, 3), (34, .iload_n 2, 1), (35, .istore_n 2, 1), (36, .iinc 3 1, 3), (39, .goto (-35), 3), (42, .iload_n 2, 1), (43, .ireturn, 1)])
def t_Mo_reasonOf : am_T := (⟨RX9, "reasonOf", "(II)I"⟩, prog_11_method_19_code, 4, (some .int), 9, (2, 47, 3), [(0, .aload_n 0, 1), (1, .iload_n 1, 1), (2, .iconst 0, 1), (3, .invokevirtual 85, 3), (6, .istore_n 3, 1), (7, .iload_n 3, 1), (8, .ifCond .le 10, 3), (11, .iload_n 2, 1), (12, .iconst (-1), 1), (13, .if_icmp .ne 5, 3), (16, .iconst 1, 1), (17, .ireturn, 1), (18, .iload_n 3, 1), (19, .ifCond .ne 8, 3), (22, .iload_n 2, 1), (23, .iconst (-1), 1), (24, .if_icmp .ne 22, 3), (27, .iload_n 3, 1), (28, .iconst 3, 1), (29, .if_icmp .ne 19, 3), (32, .aload_n 0, 1), (33, .aload_n 0, 1), (34, .iload_n 1, 1), (35, .iconst 2, 1), (36, .invokevirtual 85, 3), (39, .invokevirtual 104, 3), (42, .iconst (-1), 1), (43, .if_icmp .eq 5, 3), (46, .iconst 2, 1), (47, .ireturn, 1), (48, .iload_n 3, 1), (49, .iconst 4, 1), (50, .if_icmp .ne 19, 3), (53, .aload_n 0, 1), (54, .iload_n 2, 1), (55, .aload_n 0, 1), (56, .iload_n 1, 1), (57, .iconst 2, 1), (58, .invokevirtual 85, 3), (61, .invokevirtual 107, 3), (64, .ifCond .ne 5, 3), (67, .iconst 3, 1), (68, .ireturn, 1), (69, .iload_n 3, 1), (70, .iconst 2, 1), (71, .if_icmp .ge 15, 3), (74, .aload_n 0, 1), (75, .iload_n 1, 1), (76, .invokevirtual 111, 3), (79, .ifCond .ne 7, 3), (82, .iconst 4, 1), (83, .goto 4, 3), (86, .iconst 0, 1), (87, .ireturn, 1)])
def t_Mo_hasWord : am_T := (⟨RX9, "hasWord", "(II)Z"⟩, prog_11_method_17_code, 5, (some .boolean), 9, (0, 0, 3), [(0, .iconst 0, 1), (1, .istore_n 3, 1), (2, .iconst 0, 1), (3, .istore 4, 2), (5, .iload 4, 2), (7, .aload_n 0, 1), (8, .getfield 31, 3), (11, .iload_n 1, 1), (12, .iaload, 1), (13, .if_icmp .ge 35, 3), (16, .iload_n 3, 1), (17, .ifCond .ne 19, 3), (20, .aload_n 0, 1), (21, .getfield 34, 3), (24, .bipush 6, 2), (26, .iload_n 1, 1), (27, .imul, 1), (28, .iload 4, 2), (30, .iadd, 1), (31, .iaload, 1), (32, .iload_n 2, 1), (33, .if_icmp .ne 7, 3), (36, .iconst 1, 1), (37, .goto 4, 3), (40, .iconst 0, 1), (41, .istore_n 3, 1), (42, .iinc 4 1, 3), (45, .goto (-40), 3), (48, .iload_n 3, 1), (49, .ireturn, 1)])
def t_Mo_areReferred : am_T := (⟨RX9, "areReferred", "(I)Z"⟩, prog_11_method_18_code, 5, (some .boolean), 9, (1, 23, 2), [(0, .iconst 1, 1), (1, .istore_n 2, 1), (2, .iconst 0, 1), (3, .istore_n 3, 1), (4, .iload_n 3, 1), (5, .aload_n 0, 1), (6, .iload_n 1, 1), (7, .iconst 5, 1), (8, .invokevirtual 85, 3), (11, .if_icmp .ge 52, 3), (14, .aload_n 0, 1), (15, .iload_n 1, 1), (16, .bipush 6, 2), (18, .iload_n 3, 1), (19, .iadd, 1), (20, .invokevirtual 85, 3), (23, .istore 4, 2), (25, .iload_n 2, 1), (26, .ifCond .eq 29, 3), (29, .iload 4, 2), (31, .sipush 1000, 3), (34, .if_icmp .lt 17, 3), (37, .aload_n 0, 1), (38, .iload 4, 2), (40, .sipush 1000, 3), (43, .isub, 1), (44, .invokevirtual 104, 3), (47, .iconst (-1), 1), (48, .if_icmp .eq 7, 3), (51, .iconst 1, 1), (52, .goto 4, 3), (55, .iconst 0, 1), (56, .istore_n 2, 1), (57, .iinc 3 1, 3), (60, .goto (-56), 3), (63, .iload_n 2, 1), (64, .ireturn, 1)])
def t_Mo_setsText : am_T := (⟨RX9, "setsText", "(II)V"⟩, prog_11_method_20_code, 5, none, 9, (1, 23, 3), [(0, .iconst 0, 1), (1, .istore_n 3, 1), (2, .iload_n 3, 1), (3, .aload_n 0, 1), (4, .iload_n 1, 1), (5, .iconst 5, 1), (6, .invokevirtual 85, 3), (9, .if_icmp .ge 53, 3), (12, .aload_n 0, 1), (13, .iload_n 1, 1), (14, .bipush 6, 2), (16, .iload_n 3, 1), (17, .iadd, 1), (18, .invokevirtual 85, 3), (21, .istore 4, 2), (23, .aload_n 0, 1), (24, .getfield 49, 3), (27, .iload_n 3, 1), (28, .iload 4, 2), (30, .sipush 1000, 3), (33, .if_icmp .ge 8, 3), (36, .iload 4, 2), (38, .goto 17, 3), (41, .sipush 1000, 3), (44, .aload_n 0, 1), (45, .iload 4, 2), (47, .sipush 1000, 3), (50, .isub, 1), (51, .invokevirtual 104, 3), (54, .iadd, 1), (55, .iastore, 1), (56, .iinc 3 1, 3), (59, .goto (-57), 3), (62, .aload_n 0, 1), (63, .getfield 31, 3), (66, .iload_n 2, 1), (67, .aload_n 0, 1), (68, .iload_n 1, 1), (69, .iconst 5, 1), (70, .invokevirtual 85, 3), (73, .iastore, 1), (74, .iconst 0, 1), (75, .istore_n 3, 1), (76, .iload_n 3, 1), (77, .aload_n 0, 1), (78, .getfield 31, 3), (81, .iload_n 2, 1), (82, .iaload, 1), (83, .if_icmp .ge 26, 3), (86, .aload_n 0, 1), (87, .getfield 34, 3), (90, .bipush 6, 2), (92, .iload_n 2, 1), (93, .imul, 1), (94, .iload_n 3, 1), (95, .iadd, 1), (96, .aload_n 0, 1), (97, .getfield 49, 3), (100, .iload_n 3, 1), (101, .iaload, 1), (102, .iastore, 1), (103, .iinc 3 1, 3), (106, .goto (-30), 3), (109, .return_, 1)])
def t_Mo_statusOf : am_T := (⟨RX9, "statusOf", "(I)I"⟩, prog_11_method_26_code, 2, (some .int), 9, (1, 23, 2), [(0, .aload_n 0, 1), (1, .getfield 7, 3), (4, .bipush 21, 2), (6, .aload_n 0, 1), (7, .iload_n 1, 1), (8, .invokevirtual 143, 3), (11, .iadd, 1), (12, .iaload, 1), (13, .iconst 1, 1), (14, .if_icmp .ne 7, 3), (17, .iconst 5, 1), (18, .goto 9, 3), (21, .aload_n 0, 1), (22, .getfield 40, 3), (25, .iload_n 1, 1), (26, .iaload, 1), (27, .ireturn, 1)])
def t_Mo_amendmentOf : am_T := (⟨RX9, "amendmentOf", "(I)I"⟩, prog_11_method_9_code, 4, (some .int), 9, (0, 0, 2), [(0, .iconst 0, 1), (1, .istore_n 2, 1), (2, .iload_n 1, 1), (3, .istore_n 3, 1), (4, .iload_n 3, 1), (5, .aload_n 0, 1), (6, .getfield 7, 3), (9, .bipush 41, 2), (11, .iload_n 2, 1), (12, .iadd, 1), (13, .iaload, 1), (14, .if_icmp .lt 21, 3), (17, .iload_n 3, 1), (18, .aload_n 0, 1), (19, .getfield 7, 3), (22, .bipush 41, 2), (24, .iload_n 2, 1), (25, .iadd, 1), (26, .iaload, 1), (27, .isub, 1), (28, .istore_n 3, 1), (29, .iinc 2 1, 3), (32, .goto (-28), 3), (35, .iload_n 2, 1), (36, .ireturn, 1)])
def t_Mo_operation : am_T := (⟨RX9, "operation", "(III)I"⟩, prog_11_method_62_code, 4, (some .int), 9, (7, 165, 4), [(0, .aload_n 0, 1), (1, .iload_n 1, 1), (2, .iload_n 2, 1), (3, .invokevirtual 248, 3), (6, .ifCond .eq 13, 3), (9, .iload_n 3, 1), (10, .iconst 0, 1), (11, .bipush 8, 2), (13, .invokestatic 76, 3), (16, .ifCond .ne 6, 3), (19, .bipush (-2), 2), (21, .ireturn, 1), (22, .aload_n 0, 1), (23, .invokevirtual 242, 3), (26, .aload_n 0, 1), (27, .aload_n 0, 1), (28, .iload_n 1, 1), (29, .invokevirtual 128, 3), (32, .iload_n 2, 1), (33, .iadd, 1), (34, .iload_n 3, 1), (35, .invokevirtual 251, 3), (38, .ireturn, 1)])
def t_Mo_isOperation : am_T := (⟨RX9, "isOperation", "(II)Z"⟩, prog_11_method_60_code, 3, (some .boolean), 9, (2, 43, 3), [(0, .aload_n 0, 1), (1, .iload_n 1, 1), (2, .invokevirtual 239, 3), (5, .ifCond .eq 26, 3), (8, .iload_n 2, 1), (9, .iconst 0, 1), (10, .aload_n 0, 1), (11, .getfield 7, 3), (14, .bipush 41, 2), (16, .iload_n 1, 1), (17, .iadd, 1), (18, .iaload, 1), (19, .iconst 1, 1), (20, .isub, 1), (21, .invokestatic 76, 3), (24, .ifCond .eq 7, 3), (27, .iconst 1, 1), (28, .goto 4, 3), (31, .iconst 0, 1), (32, .ireturn, 1)])
def t_Mo_told : am_T := (⟨RX9, "told", "(II)I"⟩, prog_11_method_61_code, 4, (some .int), 9, (2, 45, 3), [(0, .aload_n 0, 1), (1, .iload_n 1, 1), (2, .iconst 0, 1), (3, .invokevirtual 85, 3), (6, .istore_n 3, 1), (7, .iload_n 2, 1), (8, .tableswitch 128 0 7 #[48, 50, 57, 73, 89, 96, 103, 109], 48), (56, .iload_n 3, 1), (57, .ireturn, 1), (58, .aload_n 0, 1), (59, .iload_n 1, 1), (60, .iconst 1, 1), (61, .invokevirtual 85, 3), (64, .ireturn, 1), (65, .iload_n 3, 1), (66, .iconst 2, 1), (67, .if_icmp .le 12, 3), (70, .aload_n 0, 1), (71, .iload_n 1, 1), (72, .iconst 2, 1), (73, .invokevirtual 85, 3), (76, .goto 4, 3), (79, .iconst (-1), 1), (80, .ireturn, 1), (81, .iload_n 3, 1), (82, .iconst 4, 1), (83, .if_icmp .ne 12, 3), (86, .aload_n 0, 1), (87, .iload_n 1, 1), (88, .iconst 3, 1), (89, .invokevirtual 85, 3), (92, .goto 4, 3), (95, .iconst (-1), 1), (96, .ireturn, 1), (97, .aload_n 0, 1), (98, .iload_n 1, 1), (99, .iconst 4, 1), (100, .invokevirtual 85, 3), (103, .ireturn, 1), (104, .aload_n 0, 1), (105, .iload_n 1, 1), (106, .iconst 5, 1), (107, .invokevirtual 85, 3), (110, .ireturn, 1), (111, .aload_n 0, 1), (112, .iload_n 1, 1), (113, .invokevirtual 245, 3), (116, .ireturn, 1), (117, .aload_n 0, 1), (118, .iload_n 1, 1), (119, .invokevirtual 245, 3), (122, .ifCond .ne 12, 3), (125, .aload_n 0, 1), (126, .getfield 43, 3), (129, .iload_n 1, 1), (130, .iaload, 1), (131, .goto 4, 3), (134, .iconst (-1), 1), (135, .ireturn, 1), (136, .iload_n 3, 1), (137, .ifCond .ne 11, 3), (140, .aload_n 0, 1), (141, .iload_n 1, 1), (142, .invokevirtual 93, 3), (145, .goto 4, 3), (148, .iconst (-1), 1), (149, .ireturn, 1)])
def t_Mo_word : am_T := (⟨RX9, "word", "(III)I"⟩, prog_11_method_63_code, 5, (some .int), 9, (3, 65, 4), [(0, .aload_n 0, 1), (1, .iload_n 1, 1), (2, .iload_n 2, 1), (3, .invokevirtual 248, 3), (6, .ifCond .ne 6, 3), (9, .bipush (-2), 2), (11, .ireturn, 1), (12, .aload_n 0, 1), (13, .iload_n 1, 1), (14, .invokevirtual 128, 3), (17, .iload_n 2, 1), (18, .iadd, 1), (19, .istore 4, 2), (21, .iload_n 3, 1), (22, .iconst 0, 1), (23, .aload_n 0, 1), (24, .iload 4, 2), (26, .iconst 5, 1), (27, .invokevirtual 85, 3), (30, .iconst 1, 1), (31, .isub, 1), (32, .invokestatic 76, 3), (35, .ifCond .eq 16, 3), (38, .aload_n 0, 1), (39, .iload 4, 2), (41, .bipush 6, 2), (43, .iload_n 3, 1), (44, .iadd, 1), (45, .invokevirtual 85, 3), (48, .goto 5, 3), (51, .bipush (-2), 2), (53, .ireturn, 1)])
def t_Mo_clauses : am_T := (⟨RX9, "clauses", "(II)I"⟩, prog_11_method_64_code, 3, (some .int), 9, (6, 145, 3), [(0, .iload_n 1, 1), (1, .invokestatic 80, 3), (4, .ifCond .eq 10, 3), (7, .iload_n 2, 1), (8, .invokestatic 254, 3), (11, .ifCond .ne 6, 3), (14, .bipush (-2), 2), (16, .ireturn, 1), (17, .aload_n 0, 1), (18, .iload_n 1, 1), (19, .iload_n 2, 1), (20, .invokevirtual 140, 3), (23, .aload_n 0, 1), (24, .invokevirtual 257, 3), (27, .ireturn, 1)])
def t_Mo_isCase : am_T := (⟨RX9, "isCase", "(I)Z"⟩, prog_11_method_4_code, 1, (some .boolean), 9, (2, 42, 1), [(0, .iload_n 0, 1), (1, .iconst (-1), 1), (2, .if_icmp .eq 10, 3), (5, .iload_n 0, 1), (6, .invokestatic 80, 3), (9, .ifCond .eq 7, 3), (12, .iconst 1, 1), (13, .goto 4, 3), (16, .iconst 0, 1), (17, .ireturn, 1)])
def t_Mo_inForce : am_T := (⟨RX9, "inForce", "()I"⟩, prog_11_method_27_code, 3, (some .int), 9, (0, 0, 1), [(0, .iconst 0, 1), (1, .istore_n 1, 1), (2, .iconst 0, 1), (3, .istore_n 2, 1), (4, .iload_n 2, 1), (5, .bipush 40, 2), (7, .if_icmp .ge 18, 3), (10, .iload_n 1, 1), (11, .aload_n 0, 1), (12, .getfield 25, 3), (15, .iload_n 2, 1), (16, .iaload, 1), (17, .iadd, 1), (18, .istore_n 1, 1), (19, .iinc 2 1, 3), (22, .goto (-18), 3), (25, .iload_n 1, 1), (26, .ireturn, 1)])
def t_Mo_clause : am_T := (⟨RX9, "clause", "(IIII)I"⟩, prog_11_method_66_code, 6, (some .int), 9, (6, 145, 5), [(0, .iload_n 1, 1), (1, .invokestatic 80, 3), (4, .ifCond .eq 20, 3), (7, .iload_n 2, 1), (8, .invokestatic 254, 3), (11, .ifCond .eq 13, 3), (14, .iload 4, 2), (16, .iconst 0, 1), (17, .iconst 3, 1), (18, .invokestatic 76, 3), (21, .ifCond .ne 6, 3), (24, .bipush (-2), 2), (26, .ireturn, 1), (27, .aload_n 0, 1), (28, .iload_n 1, 1), (29, .iload_n 2, 1), (30, .invokevirtual 140, 3), (33, .aload_n 0, 1), (34, .iload_n 3, 1), (35, .invokevirtual 260, 3), (38, .istore 5, 2), (40, .iload 5, 2), (42, .iconst (-1), 1), (43, .if_icmp .ne 8, 3), (46, .bipush (-2), 2), (48, .goto 11, 3), (51, .aload_n 0, 1), (52, .iload 5, 2), (54, .iload 4, 2), (56, .invokevirtual 263, 3), (59, .ireturn, 1)])
def t_Mo_atIndex : am_T := (⟨RX9, "atIndex", "(I)I"⟩, prog_11_method_28_code, 4, (some .int), 9, (1, 23, 2), [(0, .iconst (-1), 1), (1, .istore_n 2, 1), (2, .iconst 0, 1), (3, .istore_n 3, 1), (4, .iload_n 3, 1), (5, .bipush 40, 2), (7, .if_icmp .ge 34, 3), (10, .aload_n 0, 1), (11, .getfield 25, 3), (14, .iload_n 3, 1), (15, .iaload, 1), (16, .iconst 1, 1), (17, .if_icmp .ne 16, 3), (20, .aload_n 0, 1), (21, .iload_n 3, 1), (22, .invokevirtual 146, 3), (25, .iload_n 1, 1), (26, .if_icmp .ne 7, 3), (29, .iload_n 3, 1), (30, .goto 4, 3), (33, .iload_n 2, 1), (34, .istore_n 2, 1), (35, .iinc 3 1, 3), (38, .goto (-34), 3), (41, .iload_n 2, 1), (42, .ireturn, 1)])
def t_Mo_indexOf : am_T := (⟨RX9, "indexOf", "(I)I"⟩, prog_11_method_29_code, 4, (some .int), 9, (0, 0, 2), [(0, .iconst 0, 1), (1, .istore_n 2, 1), (2, .iconst 0, 1), (3, .istore_n 3, 1), (4, .iload_n 3, 1), (5, .bipush 40, 2), (7, .if_icmp .ge 42, 3), (10, .iload_n 2, 1), (11, .aload_n 0, 1), (12, .getfield 25, 3), (15, .iload_n 3, 1), (16, .iaload, 1), (17, .iconst 1, 1), (18, .if_icmp .ne 22, 3), (21, .aload_n 0, 1), (22, .getfield 28, 3), (25, .iload_n 3, 1), (26, .iaload, 1), (27, .aload_n 0, 1), (28, .getfield 28, 3), (31, .iload_n 1, 1), (32, .iaload, 1), (33, .if_icmp .ge 7, 3), (36, .iconst 1, 1), (37, .goto 4, 3), (40, .iconst 0, 1), (41, .iadd, 1), (42, .istore_n 2, 1), (43, .iinc 3 1, 3), (46, .goto (-42), 3), (49, .iload_n 2, 1), (50, .ireturn, 1)])
def t_Mo_about : am_T := (⟨RX9, "about", "(II)I"⟩, prog_11_method_65_code, 3, (some .int), 9, (0, 0, 3), [(0, .iload_n 2, 1), (1, .ifCond .ne 12, 3), (4, .aload_n 0, 1), (5, .getfield 28, 3), (8, .iload_n 1, 1), (9, .iaload, 1), (10, .goto 32, 3), (13, .iload_n 2, 1), (14, .iconst 1, 1), (15, .if_icmp .ne 7, 3), (18, .iload_n 1, 1), (19, .goto 23, 3), (22, .iload_n 2, 1), (23, .iconst 2, 1), (24, .if_icmp .ne 12, 3), (27, .aload_n 0, 1), (28, .getfield 31, 3), (31, .iload_n 1, 1), (32, .iaload, 1), (33, .goto 9, 3), (36, .aload_n 0, 1), (37, .getfield 37, 3), (40, .iload_n 1, 1), (41, .iaload, 1), (42, .ireturn, 1)])
def t_Mo_textWord : am_T := (⟨RX9, "textWord", "(IIII)I"⟩, prog_11_method_67_code, 6, (some .int), 9, (6, 145, 5), [(0, .iload_n 1, 1), (1, .invokestatic 80, 3), (4, .ifCond .eq 10, 3), (7, .iload_n 2, 1), (8, .invokestatic 254, 3), (11, .ifCond .ne 6, 3), (14, .bipush (-2), 2), (16, .ireturn, 1), (17, .aload_n 0, 1), (18, .iload_n 1, 1), (19, .iload_n 2, 1), (20, .invokevirtual 140, 3), (23, .aload_n 0, 1), (24, .iload_n 3, 1), (25, .invokevirtual 260, 3), (28, .istore 5, 2), (30, .iload 5, 2), (32, .iconst (-1), 1), (33, .if_icmp .eq 21, 3), (36, .iload 4, 2), (38, .iconst 0, 1), (39, .aload_n 0, 1), (40, .getfield 31, 3), (43, .iload 5, 2), (45, .iaload, 1), (46, .iconst 1, 1), (47, .isub, 1), (48, .invokestatic 76, 3), (51, .ifCond .ne 8, 3), (54, .bipush (-2), 2), (56, .goto 11, 3), (59, .aload_n 0, 1), (60, .iload 5, 2), (62, .iload 4, 2), (64, .invokevirtual 266, 3), (67, .ireturn, 1)])
def t_Mo_toldWord : am_T := (⟨RX9, "toldWord", "(II)I"⟩, prog_11_method_30_code, 4, (some .int), 9, (0, 0, 3), [(0, .aload_n 0, 1), (1, .getfield 34, 3), (4, .bipush 6, 2), (6, .iload_n 1, 1), (7, .imul, 1), (8, .iload_n 2, 1), (9, .iadd, 1), (10, .iaload, 1), (11, .istore_n 3, 1), (12, .iload_n 3, 1), (13, .sipush 1000, 3), (16, .if_icmp .ge 5, 3), (19, .iload_n 3, 1), (20, .ireturn, 1), (21, .aload_n 0, 1), (22, .getfield 25, 3), (25, .iload_n 3, 1), (26, .sipush 1000, 3), (29, .isub, 1), (30, .iaload, 1), (31, .iconst 1, 1), (32, .if_icmp .ne 20, 3), (35, .sipush 1000, 3), (38, .aload_n 0, 1), (39, .getfield 28, 3), (42, .iload_n 3, 1), (43, .sipush 1000, 3), (46, .isub, 1), (47, .iaload, 1), (48, .iadd, 1), (49, .goto 5, 3), (52, .bipush (-5), 2), (54, .ireturn, 1)])
def t_Mo_find : am_T := (⟨RX9, "find", "(III)I"⟩, prog_11_method_68_code, 5, (some .int), 9, (6, 145, 4), [(0, .iload_n 1, 1), (1, .invokestatic 80, 3), (4, .ifCond .eq 17, 3), (7, .iload_n 2, 1), (8, .invokestatic 254, 3), (11, .ifCond .eq 10, 3), (14, .iload_n 3, 1), (15, .invokestatic 269, 3), (18, .ifCond .ne 6, 3), (21, .bipush (-2), 2), (23, .ireturn, 1), (24, .aload_n 0, 1), (25, .iload_n 1, 1), (26, .iload_n 2, 1), (27, .invokevirtual 140, 3), (30, .aload_n 0, 1), (31, .iload_n 3, 1), (32, .invokevirtual 104, 3), (35, .istore 4, 2), (37, .iload 4, 2), (39, .iconst (-1), 1), (40, .if_icmp .ne 7, 3), (43, .iconst (-1), 1), (44, .goto 9, 3), (47, .aload_n 0, 1), (48, .iload 4, 2), (50, .invokevirtual 146, 3), (53, .ireturn, 1)])
def t_Mo_isCode : am_T := (⟨RX9, "isCode", "(I)Z"⟩, prog_11_method_5_code, 2, (some .boolean), 9, (0, 0, 1), [(0, .iload_n 0, 1), (1, .sipush 729, 3), (4, .irem, 1), (5, .istore_n 1, 1), (6, .iload_n 0, 1), (7, .sipush 729, 3), (10, .if_icmp .lt 26, 3), (13, .iload_n 0, 1), (14, .ldc 84, 2), (16, .if_icmp .ge 20, 3), (19, .iload_n 1, 1), (20, .bipush 27, 2), (22, .irem, 1), (23, .ifCond .eq 9, 3), (26, .iload_n 1, 1), (27, .bipush 27, 2), (29, .if_icmp .lt 7, 3), (32, .iconst 1, 1), (33, .goto 4, 3), (36, .iconst 0, 1), (37, .ireturn, 1)])
def t_Mo_print : am_T := (⟨RX9, "print", "(II)I"⟩, prog_11_method_72_code, 8, (some .int), 9, (6, 145, 3), [(0, .iload_n 1, 1), (1, .invokestatic 80, 3), (4, .ifCond .eq 10, 3), (7, .iload_n 2, 1), (8, .invokestatic 254, 3), (11, .ifCond .ne 6, 3), (14, .bipush (-2), 2), (16, .ireturn, 1), (17, .aload_n 0, 1), (18, .iload_n 1, 1), (19, .iload_n 2, 1), (20, .invokevirtual 140, 3), (23, .aload_n 0, 1), (24, .iconst 0, 1), (25, .putfield 275, 3), (28, .aload_n 0, 1), (29, .iconst 0, 1), (30, .putfield 272, 3), (33, .aload_n 0, 1), (34, .invokevirtual 257, 3), (37, .istore_n 3, 1), (38, .iconst 0, 1), (39, .istore 4, 2), (41, .iload 4, 2), (43, .iload_n 3, 1), (44, .if_icmp .ge 120, 3), (47, .aload_n 0, 1), (48, .iload 4, 2), (50, .invokevirtual 260, 3), (53, .istore 5, 2), (55, .aload_n 0, 1), (56, .aload_n 0, 1), (57, .getfield 28, 3), (60, .iload 5, 2), (62, .iaload, 1), (63, .invokevirtual 284, 3), (66, .iconst 0, 1), (67, .istore 6, 2), (69, .iload 6, 2), (71, .aload_n 0, 1), (72, .getfield 31, 3), (75, .iload 5, 2), (77, .iaload, 1), (78, .if_icmp .ge 74, 3), (81, .aload_n 0, 1), (82, .iload 5, 2), (84, .iload 6, 2), (86, .invokevirtual 266, 3), (89, .istore 7, 2), (91, .aload_n 0, 1), (92, .bipush 32, 2), (94, .invokevirtual 278, 3), (97, .iload 7, 2), (99, .bipush (-5), 2), (101, .if_icmp .ne 12, 3), (104, .aload_n 0, 1), (105, .bipush 63, 2), (107, .invokevirtual 278, 3), (110, .goto 36, 3), (113, .iload 7, 2), (115, .sipush 1000, 3), (118, .if_icmp .ge 12, 3), (121, .aload_n 0, 1), (122, .iload 7, 2), (124, .invokevirtual 281, 3), (127, .goto 19, 3), (130, .aload_n 0, 1), (131, .bipush 64, 2), (133, .invokevirtual 278, 3), (136, .aload_n 0, 1), (137, .iload 7, 2), (139, .sipush 1000, 3), (142, .isub, 1), (143, .invokevirtual 284, 3), (146, .iinc 6 1, 3), (149, .goto (-80), 3), (152, .aload_n 0, 1), (153, .bipush 10, 2), (155, .invokevirtual 278, 3), (158, .iinc 4 1, 3), (161, .goto (-120), 3), (164, .aload_n 0, 1), (165, .getfield 272, 3), (168, .ireturn, 1)])
def t_Mo_printsNumber : am_T := (⟨RX9, "printsNumber", "(I)V"⟩, prog_11_method_71_code, 4, none, 9, (2, 42, 2), [(0, .aload_n 0, 1), (1, .iload_n 1, 1), (2, .sipush 729, 3), (5, .idiv, 1), (6, .invokevirtual 281, 3), (9, .iload_n 1, 1), (10, .sipush 729, 3), (13, .irem, 1), (14, .bipush 27, 2), (16, .idiv, 1), (17, .istore_n 2, 1), (18, .iload_n 1, 1), (19, .bipush 27, 2), (21, .irem, 1), (22, .istore_n 3, 1), (23, .iload_n 2, 1), (24, .ifCond .le 13, 3), (27, .aload_n 0, 1), (28, .bipush 65, 2), (30, .iload_n 2, 1), (31, .iadd, 1), (32, .iconst 1, 1), (33, .isub, 1), (34, .invokevirtual 278, 3), (37, .iload_n 3, 1), (38, .ifCond .le 13, 3), (41, .aload_n 0, 1), (42, .bipush 65, 2), (44, .iload_n 3, 1), (45, .iadd, 1), (46, .iconst 1, 1), (47, .isub, 1), (48, .invokevirtual 278, 3), (51, .return_, 1)])
def t_Mo_printsInteger : am_T := (⟨RX9, "printsInteger", "(I)V"⟩, prog_11_method_70_code, 2, none, 9, (1, 21, 2), [(0, .iload_n 1, 1), (1, .bipush 99, 2), (3, .if_icmp .le 14, 3), (6, .aload_n 0, 1), (7, .bipush 48, 2), (9, .iload_n 1, 1), (10, .bipush 100, 2), (12, .idiv, 1), (13, .iadd, 1), (14, .invokevirtual 278, 3), (17, .iload_n 1, 1), (18, .bipush 9, 2), (20, .if_icmp .le 17, 3), (23, .aload_n 0, 1), (24, .bipush 48, 2), (26, .iload_n 1, 1), (27, .bipush 10, 2), (29, .idiv, 1), (30, .bipush 10, 2), (32, .irem, 1), (33, .iadd, 1), (34, .invokevirtual 278, 3), (37, .aload_n 0, 1), (38, .bipush 48, 2), (40, .iload_n 1, 1), (41, .bipush 10, 2), (43, .irem, 1), (44, .iadd, 1), (45, .invokevirtual 278, 3), (48, .return_, 1)])
def t_Mo_prints : am_T := (⟨RX9, "prints", "(I)V"⟩, prog_11_method_69_code, 2, none, 9, (0, 0, 2), [(0, .aload_n 0, 1), (1, .getfield 272, 3), (4, .sipush 1000, 3), (7, .if_icmp .ge 23, 3), (10, .aload_n 0, 1), (11, .getfield 58, 3), (14, .aload_n 0, 1), (15, .getfield 272, 3), (18, .iload_n 1, 1), (19, .iastore, 1), (20, .aload_n 0, 1), (21, .aload_n 0, 1), (22, .getfield 272, 3), (25, .iconst 1, 1), (26, .iadd, 1), (27, .putfield 275, 3), (30, .aload_n 0, 1), (31, .dup, 1), (32, .getfield 272, 3), (35, .iconst 1, 1), (36, .iadd, 1), (37, .putfield 272, 3), (40, .return_, 1)])
def t_Mo_printed : am_T := (⟨RX9, "printed", "(I)I"⟩, prog_11_method_73_code, 2, (some .int), 9, (0, 0, 2), [(0, .iload_n 1, 1), (1, .ifCond .ge 6, 3), (4, .bipush (-2), 2), (6, .ireturn, 1), (7, .iload_n 1, 1), (8, .aload_n 0, 1), (9, .getfield 275, 3), (12, .if_icmp .ge 12, 3), (15, .aload_n 0, 1), (16, .getfield 58, 3), (19, .iload_n 1, 1), (20, .iaload, 1), (21, .goto 4, 3), (24, .iconst (-1), 1), (25, .ireturn, 1)])
def t_Mo_history : am_T := (⟨RX9, "history", "(III)I"⟩, prog_11_method_74_code, 8, (some .int), 9, (7, 165, 4), [(0, .aload_n 0, 1), (1, .iload_n 1, 1), (2, .invokevirtual 287, 3), (5, .ifCond .eq 16, 3), (8, .iload_n 2, 1), (9, .ifCond .lt 12, 3), (12, .iload_n 3, 1), (13, .iconst 0, 1), (14, .iconst 2, 1), (15, .invokestatic 76, 3), (18, .ifCond .ne 6, 3), (21, .bipush (-2), 2), (23, .ireturn, 1), (24, .aload_n 0, 1), (25, .invokevirtual 242, 3), (28, .iload_n 2, 1), (29, .istore 4, 2), (31, .iconst 0, 1), (32, .istore 5, 2), (34, .iload 5, 2), (36, .aload_n 0, 1), (37, .getfield 117, 3), (40, .if_icmp .ge 89, 3), (43, .aload_n 0, 1), (44, .getfield 46, 3), (47, .iload 5, 2), (49, .iaload, 1), (50, .istore 6, 2), (52, .aload_n 0, 1), (53, .getfield 40, 3), (56, .iload 6, 2), (58, .iaload, 1), (59, .ifCond .ne 64, 3), (62, .aload_n 0, 1), (63, .getfield 43, 3), (66, .iload 6, 2), (68, .iaload, 1), (69, .iload_n 1, 1), (70, .if_icmp .ne 53, 3), (73, .iload 4, 2), (75, .ifCond .ne 45, 3), (78, .aload_n 0, 1), (79, .iload 6, 2), (81, .invokevirtual 143, 3), (84, .istore 7, 2), (86, .iload_n 3, 1), (87, .ifCond .ne 15, 3), (90, .aload_n 0, 1), (91, .getfield 7, 3), (94, .iconst 1, 1), (95, .iload 7, 2), (97, .iadd, 1), (98, .iaload, 1), (99, .goto 20, 3), (102, .iload_n 3, 1), (103, .iconst 1, 1), (104, .if_icmp .ne 13, 3), (107, .aload_n 0, 1), (108, .iload 6, 2), (110, .iconst 0, 1), (111, .invokevirtual 85, 3), (114, .goto 5, 3), (117, .iload 7, 2), (119, .ireturn, 1), (120, .iinc 4 (-1), 3), (123, .iinc 5 1, 3), (126, .goto (-92), 3), (129, .iconst (-1), 1), (130, .ireturn, 1)])
def t_Mo_isIdentity : am_T := (⟨RX9, "isIdentity", "(I)Z"⟩, prog_11_method_13_code, 2, (some .boolean), 9, (3, 65, 2), [(0, .iload_n 1, 1), (1, .iconst 0, 1), (2, .aload_n 0, 1), (3, .invokevirtual 97, 3), (6, .iconst 1, 1), (7, .isub, 1), (8, .invokestatic 76, 3), (11, .ireturn, 1)])
def t_Mo_difference : am_T := (⟨RX9, "difference", "(III)I"⟩, prog_11_method_77_code, 8, (some .int), 9, (6, 145, 4), [(0, .iload_n 1, 1), (1, .invokestatic 80, 3), (4, .ifCond .eq 19, 3), (7, .iload_n 2, 1), (8, .invokestatic 80, 3), (11, .ifCond .eq 12, 3), (14, .iload_n 3, 1), (15, .iconst 0, 1), (16, .iconst 3, 1), (17, .invokestatic 76, 3), (20, .ifCond .ne 6, 3), (23, .bipush (-2), 2), (25, .ireturn, 1), (26, .aload_n 0, 1), (27, .iload_n 1, 1), (28, .iconst (-1), 1), (29, .invokevirtual 140, 3), (32, .aload_n 0, 1), (33, .invokevirtual 290, 3), (36, .aload_n 0, 1), (37, .iload_n 2, 1), (38, .iconst (-1), 1), (39, .invokevirtual 140, 3), (42, .iconst 0, 1), (43, .istore 4, 2), (45, .iconst 0, 1), (46, .istore 5, 2), (48, .iload 5, 2), (50, .bipush 40, 2), (52, .if_icmp .ge 158, 3), (55, .aload_n 0, 1), (56, .getfield 25, 3), (59, .iload 5, 2), (61, .iaload, 1), (62, .iconst 1, 1), (63, .if_icmp .ne 18, 3), (66, .aload_n 0, 1), (67, .getfield 61, 3), (70, .iload 5, 2), (72, .iaload, 1), (73, .iconst 1, 1), (74, .if_icmp .ne 7, 3), (77, .iconst 1, 1), (78, .goto 4, 3), (81, .iconst 0, 1), (82, .istore 6, 2), (84, .iload_n 3, 1), (85, .ifCond .ne 28, 3), (88, .aload_n 0, 1), (89, .getfield 25, 3), (92, .iload 5, 2), (94, .iaload, 1), (95, .aload_n 0, 1), (96, .getfield 61, 3), (99, .iload 5, 2), (101, .iaload, 1), (102, .if_icmp .le 7, 3), (105, .iconst 1, 1), (106, .goto 81, 3), (109, .iconst 0, 1), (110, .goto 77, 3), (113, .iload_n 3, 1), (114, .iconst 1, 1), (115, .if_icmp .ne 28, 3), (118, .aload_n 0, 1), (119, .getfield 25, 3), (122, .iload 5, 2), (124, .iaload, 1), (125, .aload_n 0, 1), (126, .getfield 61, 3), (129, .iload 5, 2), (131, .iaload, 1), (132, .if_icmp .ge 7, 3), (135, .iconst 1, 1), (136, .goto 51, 3), (139, .iconst 0, 1), (140, .goto 47, 3), (143, .iload 6, 2), (145, .ifCond .eq 41, 3), (148, .iload_n 3, 1), (149, .iconst 2, 1), (150, .if_icmp .ne 23, 3), (153, .aload_n 0, 1), (154, .getfield 28, 3), (157, .iload 5, 2), (159, .iaload, 1), (160, .aload_n 0, 1), (161, .getfield 64, 3), (164, .iload 5, 2), (166, .iaload, 1), (167, .if_icmp .eq 19, 3), (170, .goto 12, 3), (173, .aload_n 0, 1), (174, .iload 5, 2), (176, .invokevirtual 293, 3), (179, .ifCond .ne 7, 3), (182, .iconst 1, 1), (183, .goto 4, 3), (186, .iconst 0, 1), (187, .istore 7, 2), (189, .iload 4, 2), (191, .iload 7, 2), (193, .ifCond .eq 7, 3), (196, .iconst 1, 1), (197, .goto 4, 3), (200, .iconst 0, 1), (201, .iadd, 1), (202, .istore 4, 2), (204, .iinc 5 1, 3), (207, .goto (-159), 3), (210, .iload 4, 2), (212, .ireturn, 1)])
def t_Mo_setsAside : am_T := (⟨RX9, "setsAside", "()V"⟩, prog_11_method_75_code, 2, none, 9, (0, 0, 1), [(0, .iconst 0, 1), (1, .istore_n 1, 1), (2, .iload_n 1, 1), (3, .bipush 40, 2), (5, .if_icmp .ge 45, 3), (8, .aload_n 0, 1), (9, .getfield 61, 3), (12, .iload_n 1, 1), (13, .aload_n 0, 1), (14, .getfield 25, 3), (17, .iload_n 1, 1), (18, .iaload, 1), (19, .iastore, 1), (20, .aload_n 0, 1), (21, .getfield 64, 3), (24, .iload_n 1, 1), (25, .aload_n 0, 1), (26, .getfield 28, 3), (29, .iload_n 1, 1), (30, .iaload, 1), (31, .iastore, 1), (32, .aload_n 0, 1), (33, .getfield 67, 3), (36, .iload_n 1, 1), (37, .aload_n 0, 1), (38, .getfield 31, 3), (41, .iload_n 1, 1), (42, .iaload, 1), (43, .iastore, 1), (44, .iinc 1 1, 3), (47, .goto (-45), 3), (50, .iconst 0, 1), (51, .istore_n 1, 1), (52, .iload_n 1, 1), (53, .sipush 240, 3), (56, .if_icmp .ge 21, 3), (59, .aload_n 0, 1), (60, .getfield 70, 3), (63, .iload_n 1, 1), (64, .aload_n 0, 1), (65, .getfield 34, 3), (68, .iload_n 1, 1), (69, .iaload, 1), (70, .iastore, 1), (71, .iinc 1 1, 3), (74, .goto (-22), 3), (77, .return_, 1)])
def t_Mo_isSameText : am_T := (⟨RX9, "isSameText", "(I)Z"⟩, prog_11_method_76_code, 4, (some .boolean), 9, (0, 0, 2), [(0, .aload_n 0, 1), (1, .getfield 31, 3), (4, .iload_n 1, 1), (5, .iaload, 1), (6, .aload_n 0, 1), (7, .getfield 67, 3), (10, .iload_n 1, 1), (11, .iaload, 1), (12, .if_icmp .ne 7, 3), (15, .iconst 1, 1), (16, .goto 4, 3), (19, .iconst 0, 1), (20, .istore_n 2, 1), (21, .iconst 0, 1), (22, .istore_n 3, 1), (23, .iload_n 3, 1), (24, .aload_n 0, 1), (25, .getfield 31, 3), (28, .iload_n 1, 1), (29, .iaload, 1), (30, .if_icmp .ge 44, 3), (33, .iload_n 2, 1), (34, .ifCond .eq 40, 3), (37, .aload_n 0, 1), (38, .getfield 34, 3), (41, .bipush 6, 2), (43, .iload_n 1, 1), (44, .imul, 1), (45, .iload_n 3, 1), (46, .iadd, 1), (47, .iaload, 1), (48, .aload_n 0, 1), (49, .getfield 70, 3), (52, .bipush 6, 2), (54, .iload_n 1, 1), (55, .imul, 1), (56, .iload_n 3, 1), (57, .iadd, 1), (58, .iaload, 1), (59, .if_icmp .ne 7, 3), (62, .iconst 1, 1), (63, .goto 4, 3), (66, .iconst 0, 1), (67, .istore_n 2, 1), (68, .iinc 3 1, 3), (71, .goto (-48), 3), (74, .iload_n 2, 1), (75, .ireturn, 1)])
def t_Mo_containing : am_T := (⟨RX9, "containing", "(II)I"⟩, prog_11_method_79_code, 3, (some .int), 9, (6, 145, 3), [(0, .iload_n 1, 1), (1, .invokestatic 80, 3), (4, .ifCond .eq 14, 3), (7, .iload_n 2, 1), (8, .iconst 0, 1), (9, .sipush 999, 3), (12, .invokestatic 76, 3), (15, .ifCond .ne 6, 3), (18, .bipush (-2), 2), (20, .ireturn, 1), (21, .aload_n 0, 1), (22, .iload_n 1, 1), (23, .iconst (-1), 1), (24, .invokevirtual 140, 3), (27, .aload_n 0, 1), (28, .iload_n 2, 1), (29, .invokevirtual 296, 3), (32, .ireturn, 1)])
def t_Mo_withWord : am_T := (⟨RX9, "withWord", "(I)I"⟩, prog_11_method_78_code, 4, (some .int), 9, (1, 24, 2), [(0, .iconst 0, 1), (1, .istore_n 2, 1), (2, .iconst 0, 1), (3, .istore_n 3, 1), (4, .iload_n 3, 1), (5, .bipush 40, 2), (7, .if_icmp .ge 36, 3), (10, .iload_n 2, 1), (11, .aload_n 0, 1), (12, .getfield 25, 3), (15, .iload_n 3, 1), (16, .iaload, 1), (17, .iconst 1, 1), (18, .if_icmp .ne 16, 3), (21, .aload_n 0, 1), (22, .iload_n 3, 1), (23, .iload_n 1, 1), (24, .invokevirtual 107, 3), (27, .ifCond .eq 7, 3), (30, .iconst 1, 1), (31, .goto 4, 3), (34, .iconst 0, 1), (35, .iadd, 1), (36, .istore_n 2, 1), (37, .iinc 3 1, 3), (40, .goto (-36), 3), (43, .iload_n 2, 1), (44, .ireturn, 1)])
def t_Mo_references : am_T := (⟨RX9, "references", "(II)I"⟩, prog_11_method_80_code, 8, (some .int), 9, (6, 145, 3), [(0, .iload_n 1, 1), (1, .invokestatic 80, 3), (4, .ifCond .eq 16, 3), (7, .iload_n 2, 1), (8, .iconst (-1), 1), (9, .if_icmp .eq 14, 3), (12, .aload_n 0, 1), (13, .iload_n 2, 1), (14, .invokevirtual 287, 3), (17, .ifCond .ne 6, 3), (20, .bipush (-2), 2), (22, .ireturn, 1), (23, .aload_n 0, 1), (24, .iload_n 1, 1), (25, .iconst (-1), 1), (26, .invokevirtual 140, 3), (29, .iconst 0, 1), (30, .istore_n 3, 1), (31, .iconst 0, 1), (32, .istore 4, 2), (34, .iload 4, 2), (36, .sipush 240, 3), (39, .if_icmp .ge 121, 3), (42, .iload 4, 2), (44, .bipush 6, 2), (46, .idiv, 1), (47, .istore 5, 2), (49, .aload_n 0, 1), (50, .getfield 25, 3), (53, .iload 5, 2), (55, .iaload, 1), (56, .iconst 1, 1), (57, .if_icmp .ne 35, 3), (60, .iload 4, 2), (62, .bipush 6, 2), (64, .irem, 1), (65, .aload_n 0, 1), (66, .getfield 31, 3), (69, .iload 5, 2), (71, .iaload, 1), (72, .if_icmp .ge 20, 3), (75, .aload_n 0, 1), (76, .getfield 34, 3), (79, .iload 4, 2), (81, .iaload, 1), (82, .sipush 1000, 3), (85, .if_icmp .lt 7, 3), (88, .iconst 1, 1), (89, .goto 4, 3), (92, .iconst 0, 1), (93, .istore 6, 2), (95, .iload 6, 2), (97, .ifCond .eq 17, 3), (100, .aload_n 0, 1), (101, .getfield 34, 3), (104, .iload 4, 2), (106, .iaload, 1), (107, .sipush 1000, 3), (110, .isub, 1), (111, .goto 4, 3), (114, .iconst 0, 1), (115, .istore 7, 2), (117, .iload_n 3, 1), (118, .iload 6, 2), (120, .ifCond .eq 31, 3), (123, .iload_n 2, 1), (124, .iconst (-1), 1), (125, .if_icmp .ne 16, 3), (128, .aload_n 0, 1), (129, .getfield 25, 3), (132, .iload 7, 2), (134, .iaload, 1), (135, .ifCond .ne 16, 3), (138, .goto 9, 3), (141, .iload 7, 2), (143, .iload_n 2, 1), (144, .if_icmp .ne 7, 3), (147, .iconst 1, 1), (148, .goto 4, 3), (151, .iconst 0, 1), (152, .iadd, 1), (153, .istore_n 3, 1), (154, .iinc 4 1, 3), (157, .goto (-123), 3), (160, .iload_n 3, 1), (161, .ireturn, 1)])
def t_Mo_reach : am_T := (⟨RX9, "reach", "(III)I"⟩, prog_11_method_83_code, 8, (some .int), 9, (6, 145, 4), [(0, .iload_n 1, 1), (1, .invokestatic 80, 3), (4, .ifCond .eq 20, 3), (7, .aload_n 0, 1), (8, .iload_n 2, 1), (9, .invokevirtual 287, 3), (12, .ifCond .eq 12, 3), (15, .iload_n 3, 1), (16, .iconst 0, 1), (17, .iconst 2, 1), (18, .invokestatic 76, 3), (21, .ifCond .ne 6, 3), (24, .bipush (-2), 2), (26, .ireturn, 1), (27, .aload_n 0, 1), (28, .iload_n 1, 1), (29, .iconst (-1), 1), (30, .invokevirtual 140, 3), (33, .aload_n 0, 1), (34, .getfield 25, 3), (37, .iload_n 2, 1), (38, .iaload, 1), (39, .ifCond .ne 6, 3), (42, .bipush (-3), 2), (44, .ireturn, 1), (45, .iconst 0, 1), (46, .istore 4, 2), (48, .iload 4, 2), (50, .bipush 40, 2), (52, .if_icmp .ge 17, 3), (55, .aload_n 0, 1), (56, .getfield 73, 3), (59, .iload 4, 2), (61, .iconst (-1), 1), (62, .iastore, 1), (63, .iinc 4 1, 3), (66, .goto (-18), 3), (69, .aload_n 0, 1), (70, .getfield 73, 3), (73, .iload_n 2, 1), (74, .iconst 0, 1), (75, .iastore, 1), (76, .iconst 0, 1), (77, .istore 4, 2), (79, .aload_n 0, 1), (80, .iload 4, 2), (82, .invokevirtual 302, 3), (85, .ifCond .eq 9, 3), (88, .iinc 4 1, 3), (91, .goto (-12), 3), (94, .iconst 0, 1), (95, .istore 5, 2), (97, .iconst 0, 1), (98, .istore 6, 2), (100, .iconst 0, 1), (101, .istore 7, 2), (103, .iload 7, 2), (105, .bipush 40, 2), (107, .if_icmp .ge 59, 3), (110, .iload 5, 2), (112, .aload_n 0, 1), (113, .getfield 73, 3), (116, .iload 7, 2), (118, .iaload, 1), (119, .iconst (-1), 1), (120, .if_icmp .eq 7, 3), (123, .iconst 1, 1), (124, .goto 4, 3), (127, .iconst 0, 1), (128, .iadd, 1), (129, .istore 5, 2), (131, .aload_n 0, 1), (132, .getfield 73, 3), (135, .iload 7, 2), (137, .iaload, 1), (138, .iconst (-1), 1), (139, .if_icmp .eq 17, 3), (142, .aload_n 0, 1), (143, .iload 7, 2), (145, .iload_n 2, 1), (146, .invokevirtual 299, 3), (149, .ifCond .eq 7, 3), (152, .iconst 1, 1), (153, .goto 5, 3), (156, .iload 6, 2), (158, .istore 6, 2), (160, .iinc 7 1, 3), (163, .goto (-60), 3), (166, .iload_n 3, 1), (167, .ifCond .ne 8, 3), (170, .iload 5, 2), (172, .goto 15, 3), (175, .iload_n 3, 1), (176, .iconst 1, 1), (177, .if_icmp .ne 8, 3), (180, .iload 4, 2), (182, .goto 5, 3), (185, .iload 6, 2), (187, .ireturn, 1)])
def t_Mo_spreads : am_T := (⟨RX9, "spreads", "(I)Z"⟩, prog_11_method_82_code, 5, (some .boolean), 9, (2, 46, 2), [(0, .iconst 0, 1), (1, .istore_n 2, 1), (2, .iconst 0, 1), (3, .istore_n 3, 1), (4, .iload_n 3, 1), (5, .bipush 40, 2), (7, .if_icmp .ge 79, 3), (10, .iconst 0, 1), (11, .istore 4, 2), (13, .iload 4, 2), (15, .bipush 40, 2), (17, .if_icmp .ge 63, 3), (20, .aload_n 0, 1), (21, .getfield 73, 3), (24, .iload_n 3, 1), (25, .iaload, 1), (26, .iload_n 1, 1), (27, .if_icmp .ne 53, 3), (30, .aload_n 0, 1), (31, .getfield 25, 3), (34, .iload 4, 2), (36, .iaload, 1), (37, .iconst 1, 1), (38, .if_icmp .ne 36, 3), (41, .aload_n 0, 1), (42, .getfield 73, 3), (45, .iload 4, 2), (47, .iaload, 1), (48, .iconst (-1), 1), (49, .if_icmp .ne 25, 3), (52, .aload_n 0, 1), (53, .iload_n 3, 1), (54, .iload 4, 2), (56, .invokevirtual 299, 3), (59, .ifCond .eq 15, 3), (62, .aload_n 0, 1), (63, .getfield 73, 3), (66, .iload 4, 2), (68, .iload_n 1, 1), (69, .iconst 1, 1), (70, .iadd, 1), (71, .iastore, 1), (72, .iconst 1, 1), (73, .istore_n 2, 1), (74, .iinc 4 1, 3), (77, .goto (-64), 3), (80, .iinc 3 1, 3), (83, .goto (-79), 3), (86, .iload_n 2, 1), (87, .ireturn, 1)])
def t_Mo_refers : am_T := (⟨RX9, "refers", "(II)Z"⟩, prog_11_method_81_code, 3, (some .boolean), 9, (1, 24, 3), [(0, .aload_n 0, 1), (1, .iload_n 1, 1), (2, .sipush 1000, 3), (5, .iload_n 2, 1), (6, .iadd, 1), (7, .invokevirtual 107, 3), (10, .ireturn, 1)])
def t_Mo_tally : am_T := (⟨RX9, "tally", "(I)I"⟩, prog_11_method_85_code, 5, (some .int), 9, (7, 165, 2), [(0, .iload_n 1, 1), (1, .iconst 0, 1), (2, .bipush 6, 2), (4, .invokestatic 76, 3), (7, .ifCond .ne 6, 3), (10, .bipush (-2), 2), (12, .ireturn, 1), (13, .aload_n 0, 1), (14, .invokevirtual 242, 3), (17, .aload_n 0, 1), (18, .invokevirtual 89, 3), (21, .istore_n 2, 1), (22, .iconst 0, 1), (23, .istore_n 3, 1), (24, .iconst 0, 1), (25, .istore 4, 2), (27, .iload 4, 2), (29, .iload_n 2, 1), (30, .if_icmp .ge 27, 3), (33, .iload_n 3, 1), (34, .aload_n 0, 1), (35, .iload 4, 2), (37, .invokevirtual 245, 3), (40, .iload_n 1, 1), (41, .if_icmp .ne 7, 3), (44, .iconst 1, 1), (45, .goto 4, 3), (48, .iconst 0, 1), (49, .iadd, 1), (50, .istore_n 3, 1), (51, .iinc 4 1, 3), (54, .goto (-27), 3), (57, .iconst 0, 1), (58, .istore 4, 2), (60, .iload 4, 2), (62, .iload_n 2, 1), (63, .iload_n 2, 1), (64, .imul, 1), (65, .if_icmp .ge 38, 3), (68, .iload_n 1, 1), (69, .bipush 6, 2), (71, .if_icmp .ne 32, 3), (74, .iload_n 3, 1), (75, .aload_n 0, 1), (76, .iload 4, 2), (78, .iload_n 2, 1), (79, .idiv, 1), (80, .iload 4, 2), (82, .iload_n 2, 1), (83, .irem, 1), (84, .invokevirtual 305, 3), (87, .ifCond .eq 7, 3), (90, .iconst 1, 1), (91, .goto 4, 3), (94, .iconst 0, 1), (95, .iadd, 1), (96, .istore_n 3, 1), (97, .iinc 4 1, 3), (100, .goto (-40), 3), (103, .iload_n 3, 1), (104, .ireturn, 1)])
def t_Mo_areInConflict : am_T := (⟨RX9, "areInConflict", "(II)Z"⟩, prog_11_method_84_code, 6, (some .boolean), 9, (2, 44, 3), [(0, .aload_n 0, 1), (1, .iload_n 1, 1), (2, .invokevirtual 143, 3), (5, .istore_n 3, 1), (6, .aload_n 0, 1), (7, .iload_n 2, 1), (8, .invokevirtual 143, 3), (11, .istore 4, 2), (13, .aload_n 0, 1), (14, .iload_n 1, 1), (15, .invokevirtual 245, 3), (18, .ifCond .ne 15, 3), (21, .aload_n 0, 1), (22, .iload_n 2, 1), (23, .invokevirtual 245, 3), (26, .ifCond .ne 7, 3), (29, .iconst 1, 1), (30, .goto 4, 3), (33, .iconst 0, 1), (34, .istore 5, 2), (36, .iload_n 3, 1), (37, .iload 4, 2), (39, .if_icmp .ge 47, 3), (42, .aload_n 0, 1), (43, .getfield 7, 3), (46, .iconst 1, 1), (47, .iload_n 3, 1), (48, .iadd, 1), (49, .iaload, 1), (50, .aload_n 0, 1), (51, .getfield 7, 3), (54, .iconst 1, 1), (55, .iload 4, 2), (57, .iadd, 1), (58, .iaload, 1), (59, .if_icmp .ne 27, 3), (62, .iload 5, 2), (64, .ifCond .eq 22, 3), (67, .aload_n 0, 1), (68, .getfield 43, 3), (71, .iload_n 1, 1), (72, .iaload, 1), (73, .aload_n 0, 1), (74, .getfield 43, 3), (77, .iload_n 2, 1), (78, .iaload, 1), (79, .if_icmp .ne 7, 3), (82, .iconst 1, 1), (83, .goto 4, 3), (86, .iconst 0, 1), (87, .ireturn, 1)])
def t_Mo_conflict : am_T := (⟨RX9, "conflict", "(II)I"⟩, prog_11_method_86_code, 8, (some .int), 9, (7, 165, 3), [(0, .iload_n 1, 1), (1, .ifCond .lt 12, 3), (4, .iload_n 2, 1), (5, .iconst 0, 1), (6, .iconst 4, 1), (7, .invokestatic 76, 3), (10, .ifCond .ne 6, 3), (13, .bipush (-2), 2), (15, .ireturn, 1), (16, .aload_n 0, 1), (17, .invokevirtual 242, 3), (20, .aload_n 0, 1), (21, .invokevirtual 89, 3), (24, .istore_n 3, 1), (25, .iload_n 1, 1), (26, .istore 4, 2), (28, .iconst 0, 1), (29, .istore 5, 2), (31, .iload 5, 2), (33, .iload_n 3, 1), (34, .iload_n 3, 1), (35, .imul, 1), (36, .if_icmp .ge 50, 3), (39, .iload 5, 2), (41, .iload_n 3, 1), (42, .idiv, 1), (43, .istore 6, 2), (45, .iload 5, 2), (47, .iload_n 3, 1), (48, .irem, 1), (49, .istore 7, 2), (51, .aload_n 0, 1), (52, .iload 6, 2), (54, .iload 7, 2), (56, .invokevirtual 305, 3), (59, .ifCond .eq 21, 3), (62, .iload 4, 2), (64, .ifCond .ne 13, 3), (67, .aload_n 0, 1), (68, .iload 6, 2), (70, .iload 7, 2), (72, .iload_n 2, 1), (73, .invokevirtual 308, 3), (76, .ireturn, 1), (77, .iinc 4 (-1), 3), (80, .iinc 5 1, 3), (83, .goto (-52), 3), (86, .iconst (-1), 1), (87, .ireturn, 1)])
def t_Mo_ofConflict : am_T := (⟨RX9, "ofConflict", "(III)I"⟩, prog_11_method_87_code, 6, (some .int), 9, (1, 23, 4), [(0, .aload_n 0, 1), (1, .iload_n 1, 1), (2, .invokevirtual 143, 3), (5, .istore 4, 2), (7, .aload_n 0, 1), (8, .iload_n 2, 1), (9, .invokevirtual 143, 3), (12, .istore 5, 2), (14, .iload_n 3, 1), (15, .tableswitch 53 0 3 #[29, 32, 41, 44], 29), (44, .iload 4, 2), (46, .ireturn, 1), (47, .iload_n 1, 1), (48, .aload_n 0, 1), (49, .iload 4, 2), (51, .invokevirtual 128, 3), (54, .isub, 1), (55, .ireturn, 1), (56, .iload 5, 2), (58, .ireturn, 1), (59, .iload_n 2, 1), (60, .aload_n 0, 1), (61, .iload 5, 2), (63, .invokevirtual 128, 3), (66, .isub, 1), (67, .ireturn, 1), (68, .aload_n 0, 1), (69, .getfield 43, 3), (72, .iload_n 1, 1), (73, .iaload, 1), (74, .ireturn, 1)])
def t_Mo_effect : am_T := (⟨RX9, "effect", "(II)I"⟩, prog_11_method_88_code, 6, (some .int), 9, (6, 145, 3), [(0, .aload_n 0, 1), (1, .iload_n 1, 1), (2, .invokevirtual 239, 3), (5, .ifCond .eq 10, 3), (8, .iload_n 2, 1), (9, .invokestatic 80, 3), (12, .ifCond .ne 6, 3), (15, .bipush (-2), 2), (17, .ireturn, 1), (18, .aload_n 0, 1), (19, .iload_n 2, 1), (20, .iconst (-1), 1), (21, .invokevirtual 140, 3), (24, .aload_n 0, 1), (25, .invokevirtual 290, 3), (28, .aload_n 0, 1), (29, .getfield 22, 3), (32, .iload_n 1, 1), (33, .iconst 1, 1), (34, .aload_n 0, 1), (35, .getfield 22, 3), (38, .iload_n 1, 1), (39, .iaload, 1), (40, .isub, 1), (41, .iastore, 1), (42, .aload_n 0, 1), (43, .iload_n 2, 1), (44, .iconst (-1), 1), (45, .invokevirtual 137, 3), (48, .iconst 0, 1), (49, .istore_n 3, 1), (50, .iconst 0, 1), (51, .istore 4, 2), (53, .iload 4, 2), (55, .bipush 40, 2), (57, .if_icmp .ge 82, 3), (60, .aload_n 0, 1), (61, .getfield 25, 3), (64, .iload 4, 2), (66, .iaload, 1), (67, .aload_n 0, 1), (68, .getfield 61, 3), (71, .iload 4, 2), (73, .iaload, 1), (74, .if_icmp .ne 43, 3), (77, .aload_n 0, 1), (78, .getfield 25, 3), (81, .iload 4, 2), (83, .iaload, 1), (84, .ifCond .eq 29, 3), (87, .aload_n 0, 1), (88, .getfield 28, 3), (91, .iload 4, 2), (93, .iaload, 1), (94, .aload_n 0, 1), (95, .getfield 64, 3), (98, .iload 4, 2), (100, .iaload, 1), (101, .if_icmp .ne 16, 3), (104, .aload_n 0, 1), (105, .iload 4, 2), (107, .invokevirtual 293, 3), (110, .ifCond .eq 7, 3), (113, .iconst 1, 1), (114, .goto 4, 3), (117, .iconst 0, 1), (118, .istore 5, 2), (120, .iload_n 3, 1), (121, .iload 5, 2), (123, .ifCond .eq 7, 3), (126, .iconst 0, 1), (127, .goto 4, 3), (130, .iconst 1, 1), (131, .iadd, 1), (132, .istore_n 3, 1), (133, .iinc 4 1, 3), (136, .goto (-83), 3), (139, .iload_n 3, 1), (140, .ireturn, 1)])
def t_Mo_fewestRevocations : am_T := (⟨RX9, "fewestRevocations", "(II)I"⟩, prog_11_method_90_code, 5, (some .int), 9, (6, 147, 3), [(0, .iload_n 1, 1), (1, .invokestatic 80, 3), (4, .ifCond .eq 14, 3), (7, .iload_n 2, 1), (8, .iconst 0, 1), (9, .sipush 999, 3), (12, .invokestatic 76, 3), (15, .ifCond .ne 6, 3), (18, .bipush (-2), 2), (20, .ireturn, 1), (21, .aload_n 0, 1), (22, .iload_n 1, 1), (23, .iconst (-1), 1), (24, .invokevirtual 140, 3), (27, .aload_n 0, 1), (28, .iload_n 2, 1), (29, .invokevirtual 296, 3), (32, .ifCond .ne 5, 3), (35, .iconst 0, 1), (36, .ireturn, 1), (37, .iconst 0, 1), (38, .istore_n 3, 1), (39, .iload_n 3, 1), (40, .aload_n 0, 1), (41, .getfield 7, 3), (44, .iconst 0, 1), (45, .iaload, 1), (46, .if_icmp .ge 24, 3), (49, .aload_n 0, 1), (50, .iload_n 1, 1), (51, .iload_n 2, 1), (52, .iload_n 3, 1), (53, .iload_n 3, 1), (54, .invokevirtual 311, 3), (57, .ifCond .eq 7, 3), (60, .iconst 1, 1), (61, .iload_n 3, 1), (62, .ishl, 1), (63, .ireturn, 1), (64, .iinc 3 1, 3), (67, .goto (-28), 3), (70, .iconst 1, 1), (71, .istore_n 3, 1), (72, .iload_n 3, 1), (73, .aload_n 0, 1), (74, .getfield 7, 3), (77, .iconst 0, 1), (78, .iaload, 1), (79, .if_icmp .ge 45, 3), (82, .iconst 0, 1), (83, .istore 4, 2), (85, .iload 4, 2), (87, .iload_n 3, 1), (88, .if_icmp .ge 30, 3), (91, .aload_n 0, 1), (92, .iload_n 1, 1), (93, .iload_n 2, 1), (94, .iload 4, 2), (96, .iload_n 3, 1), (97, .invokevirtual 311, 3), (100, .ifCond .eq 12, 3), (103, .iconst 1, 1), (104, .iload 4, 2), (106, .ishl, 1), (107, .iconst 1, 1), (108, .iload_n 3, 1), (109, .ishl, 1), (110, .ior, 1), (111, .ireturn, 1), (112, .iinc 4 1, 3), (115, .goto (-30), 3), (118, .iinc 3 1, 3), (121, .goto (-49), 3), (124, .iconst (-1), 1), (125, .ireturn, 1)])
def t_Mo_isGone : am_T := (⟨RX9, "isGone", "(IIII)Z"⟩, prog_11_method_89_code, 5, (some .boolean), 9, (5, 123, 5), [(0, .aload_n 0, 1), (1, .invokevirtual 134, 3), (4, .aload_n 0, 1), (5, .getfield 22, 3), (8, .iload_n 3, 1), (9, .iaload, 1), (10, .iconst 1, 1), (11, .if_icmp .eq 14, 3), (14, .aload_n 0, 1), (15, .getfield 22, 3), (18, .iload 4, 2), (20, .iaload, 1), (21, .iconst 1, 1), (22, .if_icmp .ne 5, 3), (25, .iconst 0, 1), (26, .ireturn, 1), (27, .aload_n 0, 1), (28, .getfield 22, 3), (31, .iload_n 3, 1), (32, .iconst 1, 1), (33, .iastore, 1), (34, .aload_n 0, 1), (35, .getfield 22, 3), (38, .iload 4, 2), (40, .iconst 1, 1), (41, .iastore, 1), (42, .aload_n 0, 1), (43, .iload_n 1, 1), (44, .iconst (-1), 1), (45, .invokevirtual 137, 3), (48, .aload_n 0, 1), (49, .iload_n 2, 1), (50, .invokevirtual 296, 3), (53, .ifCond .ne 7, 3), (56, .iconst 1, 1), (57, .goto 4, 3), (60, .iconst 0, 1), (61, .ireturn, 1)])
def t_Mo_between : am_T := (⟨RX9, "between", "(II)I"⟩, prog_11_method_92_code, 8, (some .int), 9, (6, 145, 3), [(0, .iload_n 1, 1), (1, .invokestatic 80, 3), (4, .ifCond .eq 10, 3), (7, .iload_n 2, 1), (8, .invokestatic 269, 3), (11, .ifCond .ne 6, 3), (14, .bipush (-2), 2), (16, .ireturn, 1), (17, .aload_n 0, 1), (18, .iload_n 1, 1), (19, .iconst (-1), 1), (20, .invokevirtual 140, 3), (23, .aload_n 0, 1), (24, .iload_n 2, 1), (25, .invokevirtual 104, 3), (28, .istore_n 3, 1), (29, .iload_n 3, 1), (30, .iconst (-1), 1), (31, .if_icmp .ne 6, 3), (34, .bipush (-3), 2), (36, .ireturn, 1), (37, .aload_n 0, 1), (38, .aload_n 0, 1), (39, .iload_n 3, 1), (40, .invokevirtual 146, 3), (43, .iconst 1, 1), (44, .iadd, 1), (45, .invokevirtual 260, 3), (48, .istore 4, 2), (50, .iload 4, 2), (52, .iconst (-1), 1), (53, .if_icmp .ne 8, 3), (56, .ldc 84, 2), (58, .goto 10, 3), (61, .aload_n 0, 1), (62, .getfield 28, 3), (65, .iload 4, 2), (67, .iaload, 1), (68, .istore 5, 2), (70, .iconst 0, 1), (71, .istore 6, 2), (73, .iload 6, 2), (75, .iconst 3, 1), (76, .if_icmp .ge 58, 3), (79, .iload_n 2, 1), (80, .iconst 1, 1), (81, .iadd, 1), (82, .istore 7, 2), (84, .iload 7, 2), (86, .iload 5, 2), (88, .if_icmp .ge 40, 3), (91, .iload 7, 2), (93, .iload_n 2, 1), (94, .sipush 1500, 3), (97, .iadd, 1), (98, .if_icmp .ge 30, 3), (101, .iload 7, 2), (103, .invokestatic 269, 3), (106, .ifCond .eq 16, 3), (109, .iload 7, 2), (111, .invokestatic 315, 3), (114, .iload 6, 2), (116, .if_icmp .ne 6, 3), (119, .iload 7, 2), (121, .ireturn, 1), (122, .iinc 7 1, 3), (125, .goto (-41), 3), (128, .iinc 6 1, 3), (131, .goto (-58), 3), (134, .iconst (-1), 1), (135, .ireturn, 1)])
def t_Mo_lettersIn : am_T := (⟨RX9, "lettersIn", "(I)I"⟩, prog_11_method_91_code, 1, (some .int), 9, (0, 0, 1), [(0, .iload_n 0, 1), (1, .sipush 729, 3), (4, .irem, 1), (5, .ifCond .ne 7, 3), (8, .iconst 0, 1), (9, .goto 15, 3), (12, .iload_n 0, 1), (13, .bipush 27, 2), (15, .irem, 1), (16, .ifCond .ne 7, 3), (19, .iconst 1, 1), (20, .goto 4, 3), (23, .iconst 2, 1), (24, .ireturn, 1)])
def t_Mo_tidy : am_T := (⟨RX9, "tidy", "(I)I"⟩, prog_11_method_94_code, 5, (some .int), 9, (6, 145, 2), [(0, .iload_n 1, 1), (1, .invokestatic 80, 3), (4, .ifCond .ne 6, 3), (7, .bipush (-2), 2), (9, .ireturn, 1), (10, .aload_n 0, 1), (11, .iload_n 1, 1), (12, .iconst (-1), 1), (13, .invokevirtual 140, 3), (16, .aload_n 0, 1), (17, .invokevirtual 257, 3), (20, .istore_n 2, 1), (21, .aload_n 0, 1), (22, .iconst 0, 1), (23, .putfield 198, 3), (26, .iload_n 2, 1), (27, .iconst 1, 1), (28, .isub, 1), (29, .istore_n 3, 1), (30, .iload_n 3, 1), (31, .ifCond .lt 46, 3), (34, .aload_n 0, 1), (35, .getfield 28, 3), (38, .aload_n 0, 1), (39, .iload_n 3, 1), (40, .invokevirtual 260, 3), (43, .iaload, 1), (44, .istore 4, 2), (46, .sipush 729, 3), (49, .iload_n 3, 1), (50, .iconst 1, 1), (51, .iadd, 1), (52, .imul, 1), (53, .iload 4, 2), (55, .if_icmp .le 16, 3), (58, .aload_n 0, 1), (59, .iload 4, 2), (61, .sipush 729, 3), (64, .iload_n 3, 1), (65, .iconst 1, 1), (66, .iadd, 1), (67, .imul, 1), (68, .invokevirtual 318, 3), (71, .iinc 3 (-1), 3), (74, .goto (-44), 3), (77, .iconst 0, 1), (78, .istore_n 3, 1), (79, .iload_n 3, 1), (80, .iload_n 2, 1), (81, .if_icmp .ge 46, 3), (84, .aload_n 0, 1), (85, .getfield 28, 3), (88, .aload_n 0, 1), (89, .iload_n 3, 1), (90, .invokevirtual 260, 3), (93, .iaload, 1), (94, .istore 4, 2), (96, .sipush 729, 3), (99, .iload_n 3, 1), (100, .iconst 1, 1), (101, .iadd, 1), (102, .imul, 1), (103, .iload 4, 2), (105, .if_icmp .ge 16, 3), (108, .aload_n 0, 1), (109, .iload 4, 2), (111, .sipush 729, 3), (114, .iload_n 3, 1), (115, .iconst 1, 1), (116, .iadd, 1), (117, .imul, 1), (118, .invokevirtual 318, 3), (121, .iinc 3 1, 3), (124, .goto (-45), 3), (127, .aload_n 0, 1), (128, .getfield 198, 3), (131, .ifCond .ne 8, 3), (134, .bipush (-3), 2), (136, .goto 8, 3), (139, .aload_n 0, 1), (140, .iload_n 1, 1), (141, .invokevirtual 236, 3), (144, .ireturn, 1)])
def t_Mo_renumbers : am_T := (⟨RX9, "renumbers", "(II)V"⟩, prog_11_method_93_code, 4, none, 9, (1, 22, 3), [(0, .iconst 0, 1), (1, .istore_n 3, 1), (2, .iload_n 3, 1), (3, .bipush 12, 2), (5, .if_icmp .ge 15, 3), (8, .aload_n 0, 1), (9, .iload_n 3, 1), (10, .iconst 0, 1), (11, .invokevirtual 201, 3), (14, .iinc 3 1, 3), (17, .goto (-15), 3), (20, .aload_n 0, 1), (21, .iconst 0, 1), (22, .iconst 3, 1), (23, .invokevirtual 201, 3), (26, .aload_n 0, 1), (27, .iconst 1, 1), (28, .iload_n 1, 1), (29, .invokevirtual 201, 3), (32, .aload_n 0, 1), (33, .iconst 2, 1), (34, .iload_n 2, 1), (35, .invokevirtual 201, 3), (38, .aload_n 0, 1), (39, .dup, 1), (40, .getfield 198, 3), (43, .iconst 1, 1), (44, .iadd, 1), (45, .putfield 198, 3), (48, .return_, 1)])
def t_Mo_save : am_T := (⟨RX9, "save", "(I)I"⟩, prog_11_method_95_code, 3, (some .int), 9, (1, 22, 2), [(0, .iload_n 1, 1), (1, .iconst 0, 1), (2, .iconst 1, 1), (3, .invokestatic 76, 3), (6, .ifCond .ne 6, 3), (9, .bipush (-2), 2), (11, .ireturn, 1), (12, .iconst 0, 1), (13, .istore_n 2, 1), (14, .iload_n 2, 1), (15, .sipush 1501, 3), (18, .if_icmp .ge 27, 3), (21, .aload_n 0, 1), (22, .getfield 16, 3), (25, .sipush 1501, 3), (28, .iload_n 1, 1), (29, .imul, 1), (30, .iload_n 2, 1), (31, .iadd, 1), (32, .aload_n 0, 1), (33, .getfield 7, 3), (36, .iload_n 2, 1), (37, .iaload, 1), (38, .iastore, 1), (39, .iinc 2 1, 3), (42, .goto (-28), 3), (45, .aload_n 0, 1), (46, .getfield 19, 3), (49, .iload_n 1, 1), (50, .iconst 1, 1), (51, .iastore, 1), (52, .aload_n 0, 1), (53, .getfield 7, 3), (56, .iconst 0, 1), (57, .iaload, 1), (58, .ireturn, 1)])
def t_Mo_restore : am_T := (⟨RX9, "restore", "(I)I"⟩, prog_11_method_96_code, 3, (some .int), 9, (1, 22, 2), [(0, .iload_n 1, 1), (1, .iconst 0, 1), (2, .iconst 1, 1), (3, .invokestatic 76, 3), (6, .ifCond .ne 6, 3), (9, .bipush (-2), 2), (11, .ireturn, 1), (12, .aload_n 0, 1), (13, .getfield 19, 3), (16, .iload_n 1, 1), (17, .iaload, 1), (18, .ifCond .ne 6, 3), (21, .bipush (-3), 2), (23, .ireturn, 1), (24, .iconst 0, 1), (25, .istore_n 2, 1), (26, .iload_n 2, 1), (27, .sipush 1501, 3), (30, .if_icmp .ge 27, 3), (33, .aload_n 0, 1), (34, .getfield 7, 3), (37, .iload_n 2, 1), (38, .aload_n 0, 1), (39, .getfield 16, 3), (42, .sipush 1501, 3), (45, .iload_n 1, 1), (46, .imul, 1), (47, .iload_n 2, 1), (48, .iadd, 1), (49, .iaload, 1), (50, .iastore, 1), (51, .iinc 2 1, 3), (54, .goto (-28), 3), (57, .aload_n 0, 1), (58, .iconst 0, 1), (59, .putfield 100, 3), (62, .aload_n 0, 1), (63, .getfield 7, 3), (66, .iconst 0, 1), (67, .iaload, 1), (68, .ireturn, 1)])
def t_Mo_count : am_T := (⟨RX9, "count", "(I)I"⟩, prog_11_method_98_code, 2, (some .int), 9, (7, 167, 2), [(0, .iload_n 1, 1), (1, .tableswitch 111 0 8 #[51, 58, 63, 68, 73, 78, 83, 88, 102], 51), (52, .aload_n 0, 1), (53, .getfield 7, 3), (56, .iconst 0, 1), (57, .iaload, 1), (58, .ireturn, 1), (59, .aload_n 0, 1), (60, .invokevirtual 89, 3), (63, .ireturn, 1), (64, .aload_n 0, 1), (65, .invokevirtual 97, 3), (68, .ireturn, 1), (69, .aload_n 0, 1), (70, .getfield 100, 3), (73, .ireturn, 1), (74, .aload_n 0, 1), (75, .getfield 149, 3), (78, .ireturn, 1), (79, .aload_n 0, 1), (80, .getfield 275, 3), (83, .ireturn, 1), (84, .aload_n 0, 1), (85, .invokevirtual 321, 3), (88, .ireturn, 1), (89, .aload_n 0, 1), (90, .getfield 19, 3), (93, .iconst 0, 1), (94, .iaload, 1), (95, .aload_n 0, 1), (96, .getfield 19, 3), (99, .iconst 1, 1), (100, .iaload, 1), (101, .iadd, 1), (102, .ireturn, 1), (103, .aload_n 0, 1), (104, .sipush 9999, 3), (107, .iconst (-1), 1), (108, .invokevirtual 324, 3), (111, .ireturn, 1), (112, .bipush (-2), 2), (114, .ireturn, 1)])
def t_Mo_revoked : am_T := (⟨RX9, "revoked", "()I"⟩, prog_11_method_97_code, 3, (some .int), 9, (0, 0, 1), [(0, .iconst 0, 1), (1, .istore_n 1, 1), (2, .iconst 0, 1), (3, .istore_n 2, 1), (4, .iload_n 2, 1), (5, .aload_n 0, 1), (6, .getfield 7, 3), (9, .iconst 0, 1), (10, .iaload, 1), (11, .if_icmp .ge 21, 3), (14, .iload_n 1, 1), (15, .aload_n 0, 1), (16, .getfield 7, 3), (19, .bipush 21, 2), (21, .iload_n 2, 1), (22, .iadd, 1), (23, .iaload, 1), (24, .iadd, 1), (25, .istore_n 1, 1), (26, .iinc 2 1, 3), (29, .goto (-25), 3), (32, .iload_n 1, 1), (33, .ireturn, 1)])
def t_Mo_digest : am_T := (⟨RX9, "digest", "()J"⟩, prog_11_method_102_code, 2, (some .long), 9, (9, 214, 1), [(0, .aload_n 0, 1), (1, .ldc2_w 339, 3), (4, .putfield 329, 3), (7, .iconst 0, 1), (8, .istore_n 1, 1), (9, .iload_n 1, 1), (10, .bipush 9, 2), (12, .if_icmp .ge 19, 3), (15, .aload_n 0, 1), (16, .aload_n 0, 1), (17, .iload_n 1, 1), (18, .invokevirtual 341, 3), (21, .i2l, 1), (22, .invokevirtual 336, 3), (25, .iinc 1 1, 3), (28, .goto (-19), 3), (31, .iconst 0, 1), (32, .istore_n 1, 1), (33, .iload_n 1, 1), (34, .aload_n 0, 1), (35, .getfield 7, 3), (38, .iconst 0, 1), (39, .iaload, 1), (40, .if_icmp .ge 14, 3), (43, .aload_n 0, 1), (44, .iload_n 1, 1), (45, .invokevirtual 344, 3), (48, .iinc 1 1, 3), (51, .goto (-18), 3), (54, .aload_n 0, 1), (55, .invokevirtual 347, 3), (58, .iconst 0, 1), (59, .istore_n 1, 1), (60, .iload_n 1, 1), (61, .bipush 7, 2), (63, .if_icmp .ge 19, 3), (66, .aload_n 0, 1), (67, .aload_n 0, 1), (68, .iload_n 1, 1), (69, .invokevirtual 350, 3), (72, .i2l, 1), (73, .invokevirtual 336, 3), (76, .iinc 1 1, 3), (79, .goto (-19), 3), (82, .iconst 0, 1), (83, .istore_n 1, 1), (84, .iload_n 1, 1), (85, .aload_n 0, 1), (86, .getfield 275, 3), (89, .if_icmp .ge 20, 3), (92, .aload_n 0, 1), (93, .aload_n 0, 1), (94, .getfield 58, 3), (97, .iload_n 1, 1), (98, .iaload, 1), (99, .i2l, 1), (100, .invokevirtual 336, 3), (103, .iinc 1 1, 3), (106, .goto (-22), 3), (109, .iconst 0, 1), (110, .istore_n 1, 1), (111, .iload_n 1, 1), (112, .aload_n 0, 1), (113, .getfield 149, 3), (116, .if_icmp .ge 20, 3), (119, .aload_n 0, 1), (120, .aload_n 0, 1), (121, .getfield 52, 3), (124, .iload_n 1, 1), (125, .iaload, 1), (126, .i2l, 1), (127, .invokevirtual 336, 3), (130, .iinc 1 1, 3), (133, .goto (-22), 3), (136, .aload_n 0, 1), (137, .getfield 329, 3), (140, .lreturn, 1)])
def t_Mo_mixes : am_T := (⟨RX9, "mixes", "(J)V"⟩, prog_11_method_99_code, 3, none, 9, (0, 0, 2), [(0, .aload_n 0, 1), (1, .ldc2_w 327, 3), (4, .aload_n 0, 1), (5, .getfield 329, 3), (8, .lmul, 1), (9, .lload_n 1, 1), (10, .ladd, 1), (11, .putfield 329, 3), (14, .return_, 1)])
def t_Mo_mixesAmendment : am_T := (⟨RX9, "mixesAmendment", "(I)V"⟩, prog_11_method_100_code, 5, none, 9, (8, 190, 2), [(0, .iconst 0, 1), (1, .istore_n 2, 1), (2, .iload_n 2, 1), (3, .iconst 4, 1), (4, .if_icmp .ge 20, 3), (7, .aload_n 0, 1), (8, .aload_n 0, 1), (9, .iload_n 1, 1), (10, .iload_n 2, 1), (11, .invokevirtual 333, 3), (14, .i2l, 1), (15, .invokevirtual 336, 3), (18, .iinc 2 1, 3), (21, .goto (-19), 3), (24, .aload_n 0, 1), (25, .invokevirtual 242, 3), (28, .aload_n 0, 1), (29, .iload_n 1, 1), (30, .invokevirtual 128, 3), (33, .istore_n 2, 1), (34, .iload_n 2, 1), (35, .istore_n 3, 1), (36, .iload_n 3, 1), (37, .iload_n 2, 1), (38, .aload_n 0, 1), (39, .getfield 7, 3), (42, .bipush 41, 2), (44, .iload_n 1, 1), (45, .iadd, 1), (46, .iaload, 1), (47, .iadd, 1), (48, .if_icmp .ge 72, 3), (51, .iconst 0, 1), (52, .istore 4, 2), (54, .iload 4, 2), (56, .bipush 9, 2), (58, .if_icmp .ge 21, 3), (61, .aload_n 0, 1), (62, .aload_n 0, 1), (63, .iload_n 3, 1), (64, .iload 4, 2), (66, .invokevirtual 251, 3), (69, .i2l, 1), (70, .invokevirtual 336, 3), (73, .iinc 4 1, 3), (76, .goto (-22), 3), (79, .iconst 0, 1), (80, .istore 4, 2), (82, .iload 4, 2), (84, .aload_n 0, 1), (85, .iload_n 3, 1), (86, .iconst 5, 1), (87, .invokevirtual 85, 3), (90, .if_icmp .ge 24, 3), (93, .aload_n 0, 1), (94, .aload_n 0, 1), (95, .iload_n 3, 1), (96, .bipush 6, 2), (98, .iload 4, 2), (100, .iadd, 1), (101, .invokevirtual 85, 3), (104, .i2l, 1), (105, .invokevirtual 336, 3), (108, .iinc 4 1, 3), (111, .goto (-29), 3), (114, .iinc 3 1, 3), (117, .goto (-81), 3), (120, .return_, 1)])
def t_Mo_mixesLaw : am_T := (⟨RX9, "mixesLaw", "()V"⟩, prog_11_method_101_code, 5, none, 9, (7, 165, 1), [(0, .aload_n 0, 1), (1, .invokevirtual 242, 3), (4, .aload_n 0, 1), (5, .invokevirtual 257, 3), (8, .istore_n 1, 1), (9, .iconst 0, 1), (10, .istore_n 2, 1), (11, .iload_n 2, 1), (12, .iload_n 1, 1), (13, .if_icmp .ge 74, 3), (16, .aload_n 0, 1), (17, .iload_n 2, 1), (18, .invokevirtual 260, 3), (21, .istore_n 3, 1), (22, .iconst 0, 1), (23, .istore 4, 2), (25, .iload 4, 2), (27, .iconst 4, 1), (28, .if_icmp .ge 21, 3), (31, .aload_n 0, 1), (32, .aload_n 0, 1), (33, .iload_n 3, 1), (34, .iload 4, 2), (36, .invokevirtual 263, 3), (39, .i2l, 1), (40, .invokevirtual 336, 3), (43, .iinc 4 1, 3), (46, .goto (-21), 3), (49, .iconst 0, 1), (50, .istore 4, 2), (52, .iload 4, 2), (54, .aload_n 0, 1), (55, .getfield 31, 3), (58, .iload_n 3, 1), (59, .iaload, 1), (60, .if_icmp .ge 21, 3), (63, .aload_n 0, 1), (64, .aload_n 0, 1), (65, .iload_n 3, 1), (66, .iload 4, 2), (68, .invokevirtual 266, 3), (71, .i2l, 1), (72, .invokevirtual 336, 3), (75, .iinc 4 1, 3), (78, .goto (-26), 3), (81, .iinc 2 1, 3), (84, .goto (-73), 3), (87, .return_, 1)])
def k_LAW_0 : List (Nat × Instr × Nat) := [(0, .new 7, 3), (3, .dup, 1), (4, .invokespecial 9, 3), (7, .astore_n 1, 1), (8, .new 10, 3), (11, .dup, 1), (12, .invokespecial 12, 3), (15, .astore_n 2, 1), (16, .iconst 0, 1), (17, .istore_n 3, 1), (18, .iload_n 3, 1), (19, .aload_n 0, 1), (20, .arraylength, 1), (21, .iconst 5, 1), (22, .isub, 1), (23, .if_icmp .gt 1135, 3), (26, .aload_n 0, 1), (27, .iload_n 3, 1), (28, .iaload, 1), (29, .bipush 31, 2), (31, .iand, 1), (32, .tableswitch 1120 0 30 #[140, 163, 176, 199, 248, 281, 294, 307, 340, 383, 426, 459, 512, 565, 608, 641, 664, 707, 750, 783, 816, 859, 882, 915, 948, 981, 1014, 1037, 1060, 1083, 1106], 140), (172, .aload_n 1, 1), (173, .aload_n 0, 1), (174, .iload_n 3, 1), (175, .iconst 1, 1), (176, .iadd, 1), (177, .iaload, 1), (178, .invokevirtual 13, 3), (181, .aload_n 2, 1), (182, .aload_n 0, 1), (183, .iload_n 3, 1), (184, .iconst 1, 1), (185, .iadd, 1), (186, .iaload, 1), (187, .invokevirtual 17, 3), (190, .if_icmp .eq 962, 3), (193, .iconst 0, 1), (194, .ireturn, 1), (195, .aload_n 1, 1)]
def k_LAW_1 : List (Nat × Instr × Nat) := [(196, .invokevirtual 18, 3), (199, .aload_n 2, 1), (200, .invokevirtual 22, 3), (203, .if_icmp .eq 949, 3), (206, .iconst 0, 1), (207, .ireturn, 1), (208, .aload_n 1, 1), (209, .aload_n 0, 1), (210, .iload_n 3, 1), (211, .iconst 1, 1), (212, .iadd, 1), (213, .iaload, 1), (214, .invokevirtual 23, 3), (217, .aload_n 2, 1), (218, .aload_n 0, 1), (219, .iload_n 3, 1), (220, .iconst 1, 1), (221, .iadd, 1), (222, .iaload, 1), (223, .invokevirtual 26, 3), (226, .if_icmp .eq 926, 3), (229, .iconst 0, 1), (230, .ireturn, 1), (231, .aload_n 1, 1), (232, .aload_n 0, 1), (233, .iload_n 3, 1), (234, .iconst 1, 1), (235, .iadd, 1), (236, .iaload, 1), (237, .aload_n 0, 1), (238, .iload_n 3, 1), (239, .iconst 2, 1), (240, .iadd, 1), (241, .iaload, 1), (242, .ifCond .eq 7, 3), (245, .iconst 1, 1), (246, .goto 4, 3), (249, .iconst 0, 1), (250, .invokevirtual 27, 3), (253, .aload_n 2, 1)]
def k_LAW_2 : List (Nat × Instr × Nat) := [(254, .aload_n 0, 1), (255, .iload_n 3, 1), (256, .iconst 1, 1), (257, .iadd, 1), (258, .iaload, 1), (259, .aload_n 0, 1), (260, .iload_n 3, 1), (261, .iconst 2, 1), (262, .iadd, 1), (263, .iaload, 1), (264, .ifCond .eq 7, 3), (267, .iconst 1, 1), (268, .goto 4, 3), (271, .iconst 0, 1), (272, .invokevirtual 31, 3), (275, .if_icmp .eq 877, 3), (278, .iconst 0, 1), (279, .ireturn, 1), (280, .aload_n 1, 1), (281, .aload_n 0, 1), (282, .iload_n 3, 1), (283, .iconst 1, 1), (284, .iadd, 1), (285, .iaload, 1), (286, .aload_n 0, 1), (287, .iload_n 3, 1), (288, .iconst 2, 1), (289, .iadd, 1), (290, .iaload, 1), (291, .invokevirtual 32, 3), (294, .aload_n 2, 1), (295, .aload_n 0, 1), (296, .iload_n 3, 1), (297, .iconst 1, 1), (298, .iadd, 1), (299, .iaload, 1), (300, .aload_n 0, 1), (301, .iload_n 3, 1), (302, .iconst 2, 1), (303, .iadd, 1)]
def k_LAW_3 : List (Nat × Instr × Nat) := [(304, .iaload, 1), (305, .invokevirtual 36, 3), (308, .if_icmp .eq 844, 3), (311, .iconst 0, 1), (312, .ireturn, 1), (313, .aload_n 1, 1), (314, .invokevirtual 37, 3), (317, .aload_n 2, 1), (318, .invokevirtual 40, 3), (321, .if_icmp .eq 831, 3), (324, .iconst 0, 1), (325, .ireturn, 1), (326, .aload_n 1, 1), (327, .invokevirtual 41, 3), (330, .aload_n 2, 1), (331, .invokevirtual 44, 3), (334, .if_icmp .eq 818, 3), (337, .iconst 0, 1), (338, .ireturn, 1), (339, .aload_n 1, 1), (340, .aload_n 0, 1), (341, .iload_n 3, 1), (342, .iconst 1, 1), (343, .iadd, 1), (344, .iaload, 1), (345, .aload_n 0, 1), (346, .iload_n 3, 1), (347, .iconst 2, 1), (348, .iadd, 1), (349, .iaload, 1), (350, .invokevirtual 45, 3), (353, .aload_n 2, 1), (354, .aload_n 0, 1), (355, .iload_n 3, 1), (356, .iconst 1, 1), (357, .iadd, 1), (358, .iaload, 1), (359, .aload_n 0, 1), (360, .iload_n 3, 1), (361, .iconst 2, 1)]
def k_LAW_4 : List (Nat × Instr × Nat) := [(362, .iadd, 1), (363, .iaload, 1), (364, .invokevirtual 48, 3), (367, .if_icmp .eq 785, 3), (370, .iconst 0, 1), (371, .ireturn, 1), (372, .aload_n 1, 1), (373, .aload_n 0, 1), (374, .iload_n 3, 1), (375, .iconst 1, 1), (376, .iadd, 1), (377, .iaload, 1), (378, .aload_n 0, 1), (379, .iload_n 3, 1), (380, .iconst 2, 1), (381, .iadd, 1), (382, .iaload, 1), (383, .aload_n 0, 1), (384, .iload_n 3, 1), (385, .iconst 3, 1), (386, .iadd, 1), (387, .iaload, 1), (388, .invokevirtual 49, 3), (391, .aload_n 2, 1), (392, .aload_n 0, 1), (393, .iload_n 3, 1), (394, .iconst 1, 1), (395, .iadd, 1), (396, .iaload, 1), (397, .aload_n 0, 1), (398, .iload_n 3, 1), (399, .iconst 2, 1), (400, .iadd, 1), (401, .iaload, 1), (402, .aload_n 0, 1), (403, .iload_n 3, 1), (404, .iconst 3, 1), (405, .iadd, 1), (406, .iaload, 1), (407, .invokevirtual 53, 3)]
def k_LAW_5 : List (Nat × Instr × Nat) := [(410, .if_icmp .eq 742, 3), (413, .iconst 0, 1), (414, .ireturn, 1), (415, .aload_n 1, 1), (416, .aload_n 0, 1), (417, .iload_n 3, 1), (418, .iconst 1, 1), (419, .iadd, 1), (420, .iaload, 1), (421, .aload_n 0, 1), (422, .iload_n 3, 1), (423, .iconst 2, 1), (424, .iadd, 1), (425, .iaload, 1), (426, .aload_n 0, 1), (427, .iload_n 3, 1), (428, .iconst 3, 1), (429, .iadd, 1), (430, .iaload, 1), (431, .invokevirtual 54, 3), (434, .aload_n 2, 1), (435, .aload_n 0, 1), (436, .iload_n 3, 1), (437, .iconst 1, 1), (438, .iadd, 1), (439, .iaload, 1), (440, .aload_n 0, 1), (441, .iload_n 3, 1), (442, .iconst 2, 1), (443, .iadd, 1), (444, .iaload, 1), (445, .aload_n 0, 1), (446, .iload_n 3, 1), (447, .iconst 3, 1), (448, .iadd, 1), (449, .iaload, 1), (450, .invokevirtual 57, 3), (453, .if_icmp .eq 699, 3), (456, .iconst 0, 1), (457, .ireturn, 1)]
def k_LAW_6 : List (Nat × Instr × Nat) := [(458, .aload_n 1, 1), (459, .aload_n 0, 1), (460, .iload_n 3, 1), (461, .iconst 1, 1), (462, .iadd, 1), (463, .iaload, 1), (464, .aload_n 0, 1), (465, .iload_n 3, 1), (466, .iconst 2, 1), (467, .iadd, 1), (468, .iaload, 1), (469, .invokevirtual 58, 3), (472, .aload_n 2, 1), (473, .aload_n 0, 1), (474, .iload_n 3, 1), (475, .iconst 1, 1), (476, .iadd, 1), (477, .iaload, 1), (478, .aload_n 0, 1), (479, .iload_n 3, 1), (480, .iconst 2, 1), (481, .iadd, 1), (482, .iaload, 1), (483, .invokevirtual 61, 3), (486, .if_icmp .eq 666, 3), (489, .iconst 0, 1), (490, .ireturn, 1), (491, .aload_n 1, 1), (492, .aload_n 0, 1), (493, .iload_n 3, 1), (494, .iconst 1, 1), (495, .iadd, 1), (496, .iaload, 1), (497, .aload_n 0, 1), (498, .iload_n 3, 1), (499, .iconst 2, 1), (500, .iadd, 1), (501, .iaload, 1), (502, .aload_n 0, 1), (503, .iload_n 3, 1)]
def k_LAW_7 : List (Nat × Instr × Nat) := [(504, .iconst 3, 1), (505, .iadd, 1), (506, .iaload, 1), (507, .aload_n 0, 1), (508, .iload_n 3, 1), (509, .iconst 4, 1), (510, .iadd, 1), (511, .iaload, 1), (512, .invokevirtual 62, 3), (515, .aload_n 2, 1), (516, .aload_n 0, 1), (517, .iload_n 3, 1), (518, .iconst 1, 1), (519, .iadd, 1), (520, .iaload, 1), (521, .aload_n 0, 1), (522, .iload_n 3, 1), (523, .iconst 2, 1), (524, .iadd, 1), (525, .iaload, 1), (526, .aload_n 0, 1), (527, .iload_n 3, 1), (528, .iconst 3, 1), (529, .iadd, 1), (530, .iaload, 1), (531, .aload_n 0, 1), (532, .iload_n 3, 1), (533, .iconst 4, 1), (534, .iadd, 1), (535, .iaload, 1), (536, .invokevirtual 66, 3), (539, .if_icmp .eq 613, 3), (542, .iconst 0, 1), (543, .ireturn, 1), (544, .aload_n 1, 1), (545, .aload_n 0, 1), (546, .iload_n 3, 1), (547, .iconst 1, 1), (548, .iadd, 1), (549, .iaload, 1)]
def k_LAW_8 : List (Nat × Instr × Nat) := [(550, .aload_n 0, 1), (551, .iload_n 3, 1), (552, .iconst 2, 1), (553, .iadd, 1), (554, .iaload, 1), (555, .aload_n 0, 1), (556, .iload_n 3, 1), (557, .iconst 3, 1), (558, .iadd, 1), (559, .iaload, 1), (560, .aload_n 0, 1), (561, .iload_n 3, 1), (562, .iconst 4, 1), (563, .iadd, 1), (564, .iaload, 1), (565, .invokevirtual 67, 3), (568, .aload_n 2, 1), (569, .aload_n 0, 1), (570, .iload_n 3, 1), (571, .iconst 1, 1), (572, .iadd, 1), (573, .iaload, 1), (574, .aload_n 0, 1), (575, .iload_n 3, 1), (576, .iconst 2, 1), (577, .iadd, 1), (578, .iaload, 1), (579, .aload_n 0, 1), (580, .iload_n 3, 1), (581, .iconst 3, 1), (582, .iadd, 1), (583, .iaload, 1), (584, .aload_n 0, 1), (585, .iload_n 3, 1), (586, .iconst 4, 1), (587, .iadd, 1), (588, .iaload, 1), (589, .invokevirtual 70, 3), (592, .if_icmp .eq 560, 3), (595, .iconst 0, 1)]
def k_LAW_9 : List (Nat × Instr × Nat) := [(596, .ireturn, 1), (597, .aload_n 1, 1), (598, .aload_n 0, 1), (599, .iload_n 3, 1), (600, .iconst 1, 1), (601, .iadd, 1), (602, .iaload, 1), (603, .aload_n 0, 1), (604, .iload_n 3, 1), (605, .iconst 2, 1), (606, .iadd, 1), (607, .iaload, 1), (608, .aload_n 0, 1), (609, .iload_n 3, 1), (610, .iconst 3, 1), (611, .iadd, 1), (612, .iaload, 1), (613, .invokevirtual 71, 3), (616, .aload_n 2, 1), (617, .aload_n 0, 1), (618, .iload_n 3, 1), (619, .iconst 1, 1), (620, .iadd, 1), (621, .iaload, 1), (622, .aload_n 0, 1), (623, .iload_n 3, 1), (624, .iconst 2, 1), (625, .iadd, 1), (626, .iaload, 1), (627, .aload_n 0, 1), (628, .iload_n 3, 1), (629, .iconst 3, 1), (630, .iadd, 1), (631, .iaload, 1), (632, .invokevirtual 74, 3), (635, .if_icmp .eq 517, 3), (638, .iconst 0, 1), (639, .ireturn, 1), (640, .aload_n 1, 1), (641, .aload_n 0, 1)]
def k_LAW_10 : List (Nat × Instr × Nat) := [(642, .iload_n 3, 1), (643, .iconst 1, 1), (644, .iadd, 1), (645, .iaload, 1), (646, .aload_n 0, 1), (647, .iload_n 3, 1), (648, .iconst 2, 1), (649, .iadd, 1), (650, .iaload, 1), (651, .invokevirtual 75, 3), (654, .aload_n 2, 1), (655, .aload_n 0, 1), (656, .iload_n 3, 1), (657, .iconst 1, 1), (658, .iadd, 1), (659, .iaload, 1), (660, .aload_n 0, 1), (661, .iload_n 3, 1), (662, .iconst 2, 1), (663, .iadd, 1), (664, .iaload, 1), (665, .invokevirtual 78, 3), (668, .if_icmp .eq 484, 3), (671, .iconst 0, 1), (672, .ireturn, 1), (673, .aload_n 1, 1), (674, .aload_n 0, 1), (675, .iload_n 3, 1), (676, .iconst 1, 1), (677, .iadd, 1), (678, .iaload, 1), (679, .invokevirtual 79, 3), (682, .aload_n 2, 1), (683, .aload_n 0, 1), (684, .iload_n 3, 1), (685, .iconst 1, 1), (686, .iadd, 1), (687, .iaload, 1), (688, .invokevirtual 82, 3), (691, .if_icmp .eq 461, 3)]
def k_LAW_11 : List (Nat × Instr × Nat) := [(694, .iconst 0, 1), (695, .ireturn, 1), (696, .aload_n 1, 1), (697, .aload_n 0, 1), (698, .iload_n 3, 1), (699, .iconst 1, 1), (700, .iadd, 1), (701, .iaload, 1), (702, .aload_n 0, 1), (703, .iload_n 3, 1), (704, .iconst 2, 1), (705, .iadd, 1), (706, .iaload, 1), (707, .aload_n 0, 1), (708, .iload_n 3, 1), (709, .iconst 3, 1), (710, .iadd, 1), (711, .iaload, 1), (712, .invokevirtual 83, 3), (715, .aload_n 2, 1), (716, .aload_n 0, 1), (717, .iload_n 3, 1), (718, .iconst 1, 1), (719, .iadd, 1), (720, .iaload, 1), (721, .aload_n 0, 1), (722, .iload_n 3, 1), (723, .iconst 2, 1), (724, .iadd, 1), (725, .iaload, 1), (726, .aload_n 0, 1), (727, .iload_n 3, 1), (728, .iconst 3, 1), (729, .iadd, 1), (730, .iaload, 1), (731, .invokevirtual 86, 3), (734, .if_icmp .eq 418, 3), (737, .iconst 0, 1), (738, .ireturn, 1), (739, .aload_n 1, 1)]
def k_LAW_12 : List (Nat × Instr × Nat) := [(740, .aload_n 0, 1), (741, .iload_n 3, 1), (742, .iconst 1, 1), (743, .iadd, 1), (744, .iaload, 1), (745, .aload_n 0, 1), (746, .iload_n 3, 1), (747, .iconst 2, 1), (748, .iadd, 1), (749, .iaload, 1), (750, .aload_n 0, 1), (751, .iload_n 3, 1), (752, .iconst 3, 1), (753, .iadd, 1), (754, .iaload, 1), (755, .invokevirtual 87, 3), (758, .aload_n 2, 1), (759, .aload_n 0, 1), (760, .iload_n 3, 1), (761, .iconst 1, 1), (762, .iadd, 1), (763, .iaload, 1), (764, .aload_n 0, 1), (765, .iload_n 3, 1), (766, .iconst 2, 1), (767, .iadd, 1), (768, .iaload, 1), (769, .aload_n 0, 1), (770, .iload_n 3, 1), (771, .iconst 3, 1), (772, .iadd, 1), (773, .iaload, 1), (774, .invokevirtual 90, 3), (777, .if_icmp .eq 375, 3), (780, .iconst 0, 1), (781, .ireturn, 1), (782, .aload_n 1, 1), (783, .aload_n 0, 1), (784, .iload_n 3, 1), (785, .iconst 1, 1)]
def k_LAW_13 : List (Nat × Instr × Nat) := [(786, .iadd, 1), (787, .iaload, 1), (788, .aload_n 0, 1), (789, .iload_n 3, 1), (790, .iconst 2, 1), (791, .iadd, 1), (792, .iaload, 1), (793, .invokevirtual 91, 3), (796, .aload_n 2, 1), (797, .aload_n 0, 1), (798, .iload_n 3, 1), (799, .iconst 1, 1), (800, .iadd, 1), (801, .iaload, 1), (802, .aload_n 0, 1), (803, .iload_n 3, 1), (804, .iconst 2, 1), (805, .iadd, 1), (806, .iaload, 1), (807, .invokevirtual 94, 3), (810, .if_icmp .eq 342, 3), (813, .iconst 0, 1), (814, .ireturn, 1), (815, .aload_n 1, 1), (816, .aload_n 0, 1), (817, .iload_n 3, 1), (818, .iconst 1, 1), (819, .iadd, 1), (820, .iaload, 1), (821, .aload_n 0, 1), (822, .iload_n 3, 1), (823, .iconst 2, 1), (824, .iadd, 1), (825, .iaload, 1), (826, .invokevirtual 95, 3), (829, .aload_n 2, 1), (830, .aload_n 0, 1), (831, .iload_n 3, 1), (832, .iconst 1, 1), (833, .iadd, 1)]
def k_LAW_14 : List (Nat × Instr × Nat) := [(834, .iaload, 1), (835, .aload_n 0, 1), (836, .iload_n 3, 1), (837, .iconst 2, 1), (838, .iadd, 1), (839, .iaload, 1), (840, .invokevirtual 98, 3), (843, .if_icmp .eq 309, 3), (846, .iconst 0, 1), (847, .ireturn, 1), (848, .aload_n 1, 1), (849, .aload_n 0, 1), (850, .iload_n 3, 1), (851, .iconst 1, 1), (852, .iadd, 1), (853, .iaload, 1), (854, .aload_n 0, 1), (855, .iload_n 3, 1), (856, .iconst 2, 1), (857, .iadd, 1), (858, .iaload, 1), (859, .aload_n 0, 1), (860, .iload_n 3, 1), (861, .iconst 3, 1), (862, .iadd, 1), (863, .iaload, 1), (864, .invokevirtual 99, 3), (867, .aload_n 2, 1), (868, .aload_n 0, 1), (869, .iload_n 3, 1), (870, .iconst 1, 1), (871, .iadd, 1), (872, .iaload, 1), (873, .aload_n 0, 1), (874, .iload_n 3, 1), (875, .iconst 2, 1), (876, .iadd, 1), (877, .iaload, 1), (878, .aload_n 0, 1), (879, .iload_n 3, 1)]
def k_LAW_15 : List (Nat × Instr × Nat) := [(880, .iconst 3, 1), (881, .iadd, 1), (882, .iaload, 1), (883, .invokevirtual 102, 3), (886, .if_icmp .eq 266, 3), (889, .iconst 0, 1), (890, .ireturn, 1), (891, .aload_n 1, 1), (892, .aload_n 0, 1), (893, .iload_n 3, 1), (894, .iconst 1, 1), (895, .iadd, 1), (896, .iaload, 1), (897, .invokevirtual 103, 3), (900, .aload_n 2, 1), (901, .aload_n 0, 1), (902, .iload_n 3, 1), (903, .iconst 1, 1), (904, .iadd, 1), (905, .iaload, 1), (906, .invokevirtual 106, 3), (909, .if_icmp .eq 243, 3), (912, .iconst 0, 1), (913, .ireturn, 1), (914, .aload_n 1, 1), (915, .aload_n 0, 1), (916, .iload_n 3, 1), (917, .iconst 1, 1), (918, .iadd, 1), (919, .iaload, 1), (920, .aload_n 0, 1), (921, .iload_n 3, 1), (922, .iconst 2, 1), (923, .iadd, 1), (924, .iaload, 1), (925, .invokevirtual 107, 3), (928, .aload_n 2, 1), (929, .aload_n 0, 1), (930, .iload_n 3, 1), (931, .iconst 1, 1)]
def k_LAW_16 : List (Nat × Instr × Nat) := [(932, .iadd, 1), (933, .iaload, 1), (934, .aload_n 0, 1), (935, .iload_n 3, 1), (936, .iconst 2, 1), (937, .iadd, 1), (938, .iaload, 1), (939, .invokevirtual 110, 3), (942, .if_icmp .eq 210, 3), (945, .iconst 0, 1), (946, .ireturn, 1), (947, .aload_n 1, 1), (948, .aload_n 0, 1), (949, .iload_n 3, 1), (950, .iconst 1, 1), (951, .iadd, 1), (952, .iaload, 1), (953, .aload_n 0, 1), (954, .iload_n 3, 1), (955, .iconst 2, 1), (956, .iadd, 1), (957, .iaload, 1), (958, .invokevirtual 111, 3), (961, .aload_n 2, 1), (962, .aload_n 0, 1), (963, .iload_n 3, 1), (964, .iconst 1, 1), (965, .iadd, 1), (966, .iaload, 1), (967, .aload_n 0, 1), (968, .iload_n 3, 1), (969, .iconst 2, 1), (970, .iadd, 1), (971, .iaload, 1), (972, .invokevirtual 114, 3), (975, .if_icmp .eq 177, 3), (978, .iconst 0, 1), (979, .ireturn, 1), (980, .aload_n 1, 1), (981, .aload_n 0, 1)]
def k_LAW_17 : List (Nat × Instr × Nat) := [(982, .iload_n 3, 1), (983, .iconst 1, 1), (984, .iadd, 1), (985, .iaload, 1), (986, .aload_n 0, 1), (987, .iload_n 3, 1), (988, .iconst 2, 1), (989, .iadd, 1), (990, .iaload, 1), (991, .invokevirtual 115, 3), (994, .aload_n 2, 1), (995, .aload_n 0, 1), (996, .iload_n 3, 1), (997, .iconst 1, 1), (998, .iadd, 1), (999, .iaload, 1), (1000, .aload_n 0, 1), (1001, .iload_n 3, 1), (1002, .iconst 2, 1), (1003, .iadd, 1), (1004, .iaload, 1), (1005, .invokevirtual 118, 3), (1008, .if_icmp .eq 144, 3), (1011, .iconst 0, 1), (1012, .ireturn, 1), (1013, .aload_n 1, 1), (1014, .aload_n 0, 1), (1015, .iload_n 3, 1), (1016, .iconst 1, 1), (1017, .iadd, 1), (1018, .iaload, 1), (1019, .aload_n 0, 1), (1020, .iload_n 3, 1), (1021, .iconst 2, 1), (1022, .iadd, 1), (1023, .iaload, 1), (1024, .invokevirtual 119, 3), (1027, .aload_n 2, 1), (1028, .aload_n 0, 1), (1029, .iload_n 3, 1)]
def k_LAW_18 : List (Nat × Instr × Nat) := [(1030, .iconst 1, 1), (1031, .iadd, 1), (1032, .iaload, 1), (1033, .aload_n 0, 1), (1034, .iload_n 3, 1), (1035, .iconst 2, 1), (1036, .iadd, 1), (1037, .iaload, 1), (1038, .invokevirtual 122, 3), (1041, .if_icmp .eq 111, 3), (1044, .iconst 0, 1), (1045, .ireturn, 1), (1046, .aload_n 1, 1), (1047, .aload_n 0, 1), (1048, .iload_n 3, 1), (1049, .iconst 1, 1), (1050, .iadd, 1), (1051, .iaload, 1), (1052, .invokevirtual 123, 3), (1055, .aload_n 2, 1), (1056, .aload_n 0, 1), (1057, .iload_n 3, 1), (1058, .iconst 1, 1), (1059, .iadd, 1), (1060, .iaload, 1), (1061, .invokevirtual 126, 3), (1064, .if_icmp .eq 88, 3), (1067, .iconst 0, 1), (1068, .ireturn, 1), (1069, .aload_n 1, 1), (1070, .aload_n 0, 1), (1071, .iload_n 3, 1), (1072, .iconst 1, 1), (1073, .iadd, 1), (1074, .iaload, 1), (1075, .invokevirtual 127, 3), (1078, .aload_n 2, 1), (1079, .aload_n 0, 1), (1080, .iload_n 3, 1), (1081, .iconst 1, 1)]
def k_LAW_19 : List (Nat × Instr × Nat) := [(1082, .iadd, 1), (1083, .iaload, 1), (1084, .invokevirtual 130, 3), (1087, .if_icmp .eq 65, 3), (1090, .iconst 0, 1), (1091, .ireturn, 1), (1092, .aload_n 1, 1), (1093, .aload_n 0, 1), (1094, .iload_n 3, 1), (1095, .iconst 1, 1), (1096, .iadd, 1), (1097, .iaload, 1), (1098, .invokevirtual 131, 3), (1101, .aload_n 2, 1), (1102, .aload_n 0, 1), (1103, .iload_n 3, 1), (1104, .iconst 1, 1), (1105, .iadd, 1), (1106, .iaload, 1), (1107, .invokevirtual 134, 3), (1110, .if_icmp .eq 42, 3), (1113, .iconst 0, 1), (1114, .ireturn, 1), (1115, .aload_n 1, 1), (1116, .aload_n 0, 1), (1117, .iload_n 3, 1), (1118, .iconst 1, 1), (1119, .iadd, 1), (1120, .iaload, 1), (1121, .invokevirtual 135, 3), (1124, .aload_n 2, 1), (1125, .aload_n 0, 1), (1126, .iload_n 3, 1), (1127, .iconst 1, 1), (1128, .iadd, 1), (1129, .iaload, 1), (1130, .invokevirtual 138, 3), (1133, .if_icmp .eq 19, 3), (1136, .iconst 0, 1), (1137, .ireturn, 1)]
def k_LAW_20 : List (Nat × Instr × Nat) := [(1138, .aload_n 1, 1), (1139, .invokevirtual 139, 3), (1142, .aload_n 2, 1), (1143, .invokevirtual 143, 3), (1146, .lcmp, 1), (1147, .ifCond .eq 5, 3), (1150, .iconst 0, 1), (1151, .ireturn, 1), (1152, .iinc 3 5, 3), (1155, .goto (-1137), 3), (1158, .iconst 1, 1), (1159, .ireturn, 1)]
def t_LAW_law : am_T := (⟨R_law, "law", "([I)Z"⟩, code, 4, (some .boolean), 10, (13, 470, 1), k_LAW_0 ++ (k_LAW_1 ++ (k_LAW_2 ++ (k_LAW_3 ++ (k_LAW_4 ++ (k_LAW_5 ++ (k_LAW_6 ++ (k_LAW_7 ++ (k_LAW_8 ++ (k_LAW_9 ++ (k_LAW_10 ++ (k_LAW_11 ++ (k_LAW_12 ++ (k_LAW_13 ++ (k_LAW_14 ++ (k_LAW_15 ++ (k_LAW_16 ++ (k_LAW_17 ++ (k_LAW_18 ++ (k_LAW_19 ++ (k_LAW_20)))))))))))))))))))))
/-- all methods, with the places of their words: code, the class initialised -/
def am_ts0 : List (am_T × Nat × Nat) := [(t_SB_type, 325, 109), (t_SB_within, 328, 109), (t_Pag_kept, 332, 111), (t_Pag_append, 339, 111), (t_SB_clear, 343, 109), (t_Pag_makeEmpty, 347, 111), (t_SB_enact, 351, 109), (t_Rea_readAmendment, 355, 110), (t_Dra_makeEmpty, 359, 113), (t_Rea_readOperation, 363, 110), (t_Rea_skipBlanks, 367, 110), (t_Pag_byteAt, 372, 111), (t_Dra_size, 376, 113), (t_Rea_readKind, 380, 110), (t_Rea_passes, 385, 110), (t_Str_length, 389, 120), (t_Str_coder, 393, 120), (t_Str_charAt, 399, 120), (t_Str_isLatin1, 403, 120), (t_SL1_charAt, 406, 121), (t_Str_checkIndex, 409, 120), (t_Pre_checkIndex, 414, 122), (t_Rea_isBetween, 436, 110), (t_Rea_fail, 444, 110), (t_Rea_readNumber, 448, 110), (t_Rea_readDigits, 452, 110), (t_Dra_begin, 456, 113), (t_Dra_put, 460, 113), (t_Row_set, 464, 114), (t_Rea_readWords, 468, 110), (t_Rea_isAtWord, 472, 110), (t_Dra_addWord, 476, 113)]
def am_ts1 : List (am_T × Nat × Nat) := [(t_Row_get, 480, 114), (t_Rea_expect, 485, 110), (t_Rea_readPlain, 491, 110), (t_Rea_readSaving, 496, 110), (t_Rea_readSemicolon, 501, 110), (t_SB_addDraft, 505, 109), (t_Amd_hasRoomFor, 509, 115), (t_Amd_size, 513, 115), (t_Amd_operations, 518, 115), (t_Amd_identities, 523, 115), (t_Dra_inserts, 527, 113), (t_Arc_push, 531, 116), (t_Arc_putAway, 536, 116), (t_Row_take, 540, 114), (t_Amd_add, 547, 115), (t_Amd_cell, 552, 115), (t_Amd_setDay, 557, 115), (t_SB_revoke, 563, 109), (t_Amd_has, 567, 115), (t_Amd_isRevoked, 571, 115), (t_Amd_revoked, 575, 115), (t_Amd_setRevoked, 579, 115), (t_SB_commence, 583, 109), (t_Amd_day, 587, 115), (t_SB_withdraw, 592, 109), (t_Amd_removeLast, 596, 115), (t_Amd_start, 600, 115), (t_SB_undo, 606, 109), (t_Arc_states, 610, 116), (t_Arc_pop, 614, 116), (t_Arc_bring, 618, 116), (t_SB_amendment, 622, 109)]
def am_ts2 : List (am_T × Nat × Nat) := [(t_SB_consolidateFully, 626, 109), (t_Law_consolidate, 630, 117), (t_Row_fill, 634, 114), (t_Arr_fill, 637, 125), (t_Law_nextKey, 640, 117), (t_Law_carryOut, 646, 117), (t_Law_holder, 652, 117), (t_Law_resolves, 657, 117), (t_Law_reason, 662, 117), (t_Law_contains, 666, 117), (t_Law_perform, 670, 117), (t_Law_setText, 674, 117), (t_Law_change, 679, 117), (t_Law_arrange, 683, 117), (t_SB_amendmentPart, 687, 109), (t_Amd_operationsOf, 691, 115), (t_Law_effective, 696, 117), (t_Law_status, 700, 117), (t_SB_operation, 704, 109), (t_Amd_hasOperation, 708, 115), (t_SB_operationPart, 714, 109), (t_Law_affected, 719, 117), (t_SB_word, 724, 109), (t_SB_clauses, 728, 109), (t_SB_isLaw, 731, 109), (t_SB_consolidate, 735, 109), (t_Law_size, 739, 117), (t_SB_clause, 743, 109), (t_Law_at, 747, 117), (t_SB_clausePart, 751, 109), (t_Law_code, 755, 117), (t_Law_length, 759, 117)]
def am_ts3 : List (am_T × Nat × Nat) := [(t_Law_lastDay, 763, 117), (t_SB_textWord, 767, 109), (t_SB_presentWord, 771, 109), (t_Law_said, 775, 117), (t_SB_find, 779, 109), (t_SB_isCode, 782, 109), (t_Law_indexOf, 786, 117), (t_SB_print, 792, 109), (t_SB_printClause, 796, 109), (t_Pag_appendNumber, 800, 111), (t_Pag_appendInteger, 804, 111), (t_Pag_written, 810, 111), (t_SB_printed, 814, 109), (t_SB_history, 819, 109), (t_SB_isIdentity, 823, 109), (t_Law_effectOn, 828, 117), (t_Amd_amendmentOf, 833, 115), (t_SB_difference, 837, 109), (t_SB_differs, 841, 109), (t_Law_saysTheSame, 845, 117), (t_SB_containing, 851, 109), (t_Law_clausesWith, 855, 117), (t_SB_references, 859, 109), (t_SB_referencesFrom, 863, 109), (t_Law_target, 867, 117), (t_SB_reach, 871, 109), (t_Wal_follow, 875, 118), (t_Wal_meet, 880, 118), (t_Wal_reached, 889, 118), (t_Wal_greatestDistance, 893, 118), (t_Wal_comesBack, 897, 118), (t_SB_tally, 901, 109)]
def am_ts4 : List (am_T × Nat × Nat) := [(t_SB_tallyPart, 905, 109), (t_SB_conflicts, 909, 109), (t_SB_clash, 914, 109), (t_SB_conflict, 918, 109), (t_SB_conflictPart, 922, 109), (t_SB_effect, 926, 109), (t_SB_fewestRevocations, 930, 109), (t_SB_vanishes, 934, 109), (t_SB_isCarriedOut, 938, 109), (t_SB_between, 942, 109), (t_SB_numberBetween, 946, 109), (t_SB_tidy, 950, 109), (t_SB_draftTidying, 954, 109), (t_SB_save, 962, 109), (t_Arc_keepSnapshot, 966, 116), (t_SB_restore, 970, 109), (t_Arc_hasSnapshot, 974, 116), (t_Arc_bringSnapshot, 978, 116), (t_SB_count, 982, 109), (t_SB_countPart, 986, 109), (t_Int_bitCount, 989, 126), (t_Arc_snapshots, 996, 116), (t_SB_digest, 1001, 109), (t_SB_mixed, 1005, 109), (t_SB_mixedAmendment, 1010, 109), (t_SB_mixedClause, 1014, 109), (t_SB_mixedPage, 1017, 109), (t_Mo_type, 1121, 119), (t_Mo_in, 1124, 119), (t_Mo_clear, 1128, 119), (t_Mo_enact, 1132, 119), (t_Mo_isDay, 1135, 119)]
def am_ts5 : List (am_T × Nat × Nat) := [(t_Mo_readsAll, 1139, 119), (t_Mo_skips, 1143, 119), (t_Mo_byteAt, 1147, 119), (t_Mo_readsOperation, 1151, 119), (t_Mo_fails, 1155, 119), (t_Mo_puts, 1159, 119), (t_Mo_readsLetters, 1163, 119), (t_Mo_isSmall, 1167, 119), (t_Mo_kindOf, 1173, 119), (t_Mo_lettersOf, 1176, 119), (t_Mo_numberBehindBlanks, 1180, 119), (t_Mo_readsNumber, 1184, 119), (t_Mo_readsDigits, 1188, 119), (t_Mo_isDigit, 1192, 119), (t_Mo_letter, 1196, 119), (t_Mo_readsWords, 1200, 119), (t_Mo_needsWord, 1204, 119), (t_Mo_plainBehindBlanks, 1208, 119), (t_Mo_readsSaving, 1212, 119), (t_Mo_adds, 1216, 119), (t_Mo_readInserts, 1220, 119), (t_Mo_operations, 1224, 119), (t_Mo_identities, 1228, 119), (t_Mo_identitiesAhead, 1232, 119), (t_Mo_part, 1236, 119), (t_Mo_keeps, 1240, 119), (t_Mo_revoke, 1244, 119), (t_Mo_isAmendment, 1248, 119), (t_Mo_commence, 1252, 119), (t_Mo_withdraw, 1256, 119), (t_Mo_undo, 1260, 119), (t_Mo_amendment, 1264, 119)]
def am_ts6 : List (am_T × Nat × Nat) := [(t_Mo_fullLaw, 1268, 119), (t_Mo_laws, 1272, 119), (t_Mo_offAsRevoked, 1276, 119), (t_Mo_consolidates, 1280, 119), (t_Mo_nextAmendment, 1284, 119), (t_Mo_firstOf, 1288, 119), (t_Mo_carriesOut, 1292, 119), (t_Mo_withCode, 1296, 119), (t_Mo_reasonOf, 1300, 119), (t_Mo_hasWord, 1304, 119), (t_Mo_areReferred, 1308, 119), (t_Mo_setsText, 1312, 119), (t_Mo_statusOf, 1316, 119), (t_Mo_amendmentOf, 1320, 119), (t_Mo_operation, 1324, 119), (t_Mo_isOperation, 1328, 119), (t_Mo_told, 1332, 119), (t_Mo_word, 1336, 119), (t_Mo_clauses, 1340, 119), (t_Mo_isCase, 1343, 119), (t_Mo_inForce, 1347, 119), (t_Mo_clause, 1351, 119), (t_Mo_atIndex, 1355, 119), (t_Mo_indexOf, 1359, 119), (t_Mo_about, 1363, 119), (t_Mo_textWord, 1367, 119), (t_Mo_toldWord, 1371, 119), (t_Mo_find, 1375, 119), (t_Mo_isCode, 1378, 119), (t_Mo_print, 1383, 119), (t_Mo_printsNumber, 1387, 119), (t_Mo_printsInteger, 1391, 119)]
def am_ts7 : List (am_T × Nat × Nat) := [(t_Mo_prints, 1395, 119), (t_Mo_printed, 1399, 119), (t_Mo_history, 1403, 119), (t_Mo_isIdentity, 1407, 119), (t_Mo_difference, 1411, 119), (t_Mo_setsAside, 1415, 119), (t_Mo_isSameText, 1419, 119), (t_Mo_containing, 1423, 119), (t_Mo_withWord, 1427, 119), (t_Mo_references, 1431, 119), (t_Mo_reach, 1435, 119), (t_Mo_spreads, 1439, 119), (t_Mo_refers, 1443, 119), (t_Mo_tally, 1447, 119), (t_Mo_areInConflict, 1451, 119), (t_Mo_conflict, 1455, 119), (t_Mo_ofConflict, 1459, 119), (t_Mo_effect, 1463, 119), (t_Mo_fewestRevocations, 1467, 119), (t_Mo_isGone, 1471, 119), (t_Mo_between, 1475, 119), (t_Mo_lettersIn, 1478, 119), (t_Mo_tidy, 1482, 119), (t_Mo_renumbers, 1486, 119), (t_Mo_save, 1490, 119), (t_Mo_restore, 1494, 119), (t_Mo_count, 1498, 119), (t_Mo_revoked, 1502, 119), (t_Mo_digest, 1507, 119), (t_Mo_mixes, 1513, 119), (t_Mo_mixesAmendment, 1518, 119), (t_Mo_mixesLaw, 1523, 119)]
def am_ts8 : List (am_T × Nat × Nat) := [(t_LAW_law, 0, 108)]
def am_ts : List (am_T × Nat × Nat) := am_ts0 ++ am_ts1 ++ am_ts2 ++ am_ts3 ++ am_ts4 ++ am_ts5 ++ am_ts6 ++ am_ts7 ++ am_ts8
def am_m0 : List (Nat × Nat × Nat × Nat × Nat × Nat) := [(20, 32, 0, 514, 478, 479), (24, 28, 0, 553, 462, 463), (28, 58, 0, 597, 598, 599), (31, 39, 0, 510, 511, 512), (35, 50, 0, 709, 565, 566), (39, 79, 0, 710, 689, 690), (42, 40, 0, 515, 516, 517), (45, 12, 0, 519, 374, 375), (48, 41, 0, 520, 521, 522), (51, 42, 0, 524, 525, 526), (55, 45, 0, 548, 538, 539), (59, 47, 0, 549, 550, 551), (63, 48, 0, 554, 555, 556), (66, 52, 0, 601, 573, 574), (69, 53, 0, 602, 577, 578)]
def am_f0 : List (Nat × Nat × Nat × Nat × Nat) := [(16, 0, 0, 0, 211), (54, 2, 0, 1, 176)]
def am_ki0 : List (Nat × Int32 × Nat) := []
def am_kl0 : List (Nat × Int64 × Nat) := []
def am_m1 : List (Nat × Nat × Nat × Nat × Nat × Nat) := [(27, 45, 0, 537, 538, 539), (40, 44, 0, 533, 535, 14), (44, 62, 0, 615, 617, 15), (50, 148, 1, 997, 988, 0)]
def am_f1 : List (Nat × Nat × Nat × Nat × Nat) := [(16, 1, 0, 0, 224), (22, 1, 1, 0, 225), (26, 0, 0, 1, 212), (31, 1, 2, 0, 226), (47, 1, 3, 0, 227)]
def am_ki1 : List (Nat × Int32 × Nat) := []
def am_kl1 : List (Nat × Int64 × Nat) := []
def am_m2 : List (Nat × Nat × Nat × Nat × Nat × Nat) := [(27, 27, 0, 457, 458, 459), (31, 28, 0, 461, 462, 463), (34, 32, 0, 477, 478, 479)]
def am_f2 : List (Nat × Nat × Nat × Nat × Nat) := [(14, 2, 0, 0, 175), (20, 2, 1, 0, 177), (24, 2, 2, 0, 178)]
def am_ki2 : List (Nat × Int32 × Nat) := []
def am_kl2 : List (Nat × Int64 × Nat) := []
def am_m3 : List (Nat × Nat × Nat × Nat × Nat × Nat) := [(44, 66, 0, 631, 632, 633), (51, 68, 1, 638, 639, 0), (55, 69, 0, 643, 645, 17), (59, 77, 0, 680, 682, 24), (62, 39, 0, 641, 511, 512), (68, 55, 0, 642, 585, 586), (72, 58, 0, 647, 598, 599), (75, 47, 0, 648, 550, 551), (79, 70, 0, 649, 651, 18), (82, 71, 0, 654, 656, 19), (86, 72, 0, 659, 661, 20), (90, 28, 0, 658, 462, 463), (94, 74, 0, 667, 669, 21), (97, 32, 0, 653, 478, 479), (100, 73, 0, 663, 664, 665), (104, 75, 0, 671, 673, 22), (107, 76, 0, 676, 678, 23), (111, 45, 0, 675, 538, 539), (117, 99, 0, 847, 773, 774), (120, 92, 0, 787, 745, 746), (123, 94, 0, 788, 753, 754), (126, 95, 0, 846, 757, 758), (129, 81, 0, 697, 698, 699), (132, 85, 0, 829, 717, 718)]
def am_f3 : List (Nat × Nat × Nat × Nat × Nat) := [(14, 3, 0, 0, 245), (20, 3, 1, 0, 246), (23, 3, 2, 0, 247), (26, 3, 3, 0, 248), (29, 3, 4, 0, 249), (32, 3, 5, 0, 250), (35, 3, 6, 0, 251), (38, 3, 7, 0, 252), (41, 3, 8, 0, 253), (47, 3, 10, 0, 255), (115, 3, 9, 0, 254)]
def am_ki3 : List (Nat × Int32 × Nat) := []
def am_kl3 : List (Nat × Int64 × Nat) := []
def am_m4 : List (Nat × Nat × Nat × Nat × Nat × Nat) := [(28, 3, 0, 805, 337, 338), (32, 106, 0, 801, 802, 803)]
def am_f4 : List (Nat × Nat × Nat × Nat × Nat) := [(15, 4, 0, 0, 150), (21, 4, 1, 0, 151)]
def am_ki4 : List (Nat × Int32 × Nat) := []
def am_kl4 : List (Nat × Int64 × Nat) := []
def am_m5 : List (Nat × Nat × Nat × Nat × Nat × Nat) := [(27, 8, 0, 356, 357, 358), (37, 9, 0, 360, 362, 0), (40, 36, 0, 498, 500, 12), (44, 10, 0, 364, 366, 1), (47, 12, 0, 373, 374, 375), (51, 13, 0, 377, 379, 2), (54, 23, 0, 441, 443, 4), (57, 24, 0, 445, 447, 5), (60, 26, 0, 453, 454, 455), (64, 29, 0, 465, 467, 7), (69, 33, 0, 482, 484, 9), (73, 27, 0, 486, 458, 459), (78, 34, 0, 488, 490, 10), (82, 35, 0, 493, 495, 11), (87, 14, 0, 382, 384, 3), (99, 30, 0, 469, 471, 8), (102, 11, 0, 369, 370, 371), (106, 31, 0, 473, 474, 475), (109, 25, 0, 449, 451, 6), (112, 22, 1, 434, 435, 0), (118, 2, 0, 368, 330, 331), (121, 15, 0, 386, 387, 388), (126, 17, 0, 396, 397, 398)]
def am_f5 : List (Nat × Nat × Nat × Nat × Nat) := [(14, 5, 0, 0, 186), (23, 5, 1, 0, 188), (30, 5, 2, 0, 190), (34, 5, 3, 0, 191)]
def am_ki5 : List (Nat × Int32 × Nat) := []
def am_kl5 : List (Nat × Int64 × Nat) := []
def am_m6 : List (Nat × Nat × Nat × Nat × Nat × Nat) := [(19, 67, 1, 635, 636, 0)]
def am_f6 : List (Nat × Nat × Nat × Nat × Nat) := [(13, 6, 0, 0, 171)]
def am_ki6 : List (Nat × Int32 × Nat) := []
def am_kl6 : List (Nat × Int64 × Nat) := []
def am_m7 : List (Nat × Nat × Nat × Nat × Nat × Nat) := [(23, 66, 0, 876, 632, 633), (34, 123, 0, 877, 879, 34), (38, 32, 0, 881, 478, 479), (42, 95, 0, 883, 757, 758), (47, 120, 0, 884, 865, 866), (51, 94, 0, 885, 753, 754), (54, 28, 0, 882, 462, 463)]
def am_f7 : List (Nat × Nat × Nat × Nat × Nat) := [(14, 7, 0, 0, 287), (20, 7, 1, 0, 288), (26, 7, 2, 0, 289), (30, 7, 3, 0, 290)]
def am_ki7 : List (Nat × Int32 × Nat) := []
def am_kl7 : List (Nat × Int64 × Nat) := []
def am_m8 : List (Nat × Nat × Nat × Nat × Nat × Nat) := [(56, 1, 1, 326, 327, 0), (63, 2, 0, 329, 330, 331), (67, 3, 0, 336, 337, 338), (70, 5, 0, 344, 345, 346), (73, 7, 0, 352, 353, 354), (76, 37, 0, 502, 504, 13), (84, 38, 0, 506, 507, 508), (88, 43, 0, 528, 529, 530), (92, 46, 0, 544, 545, 546), (96, 39, 0, 558, 511, 512), (99, 50, 0, 564, 565, 566), (103, 51, 0, 568, 569, 570), (106, 52, 0, 572, 573, 574), (109, 53, 0, 576, 577, 578), (112, 55, 0, 584, 585, 586), (115, 48, 0, 588, 555, 556), (119, 57, 0, 593, 594, 595), (122, 60, 0, 607, 608, 609), (125, 61, 0, 611, 612, 613), (128, 64, 0, 623, 625, 16), (131, 78, 0, 684, 686, 25), (135, 79, 0, 688, 689, 690), (138, 58, 0, 692, 598, 599), (141, 80, 0, 693, 694, 695), (144, 83, 0, 705, 706, 707), (147, 84, 0, 711, 713, 26), (150, 81, 0, 715, 698, 699), (153, 85, 0, 716, 717, 718), (156, 47, 0, 720, 550, 551), (159, 88, 1, 729, 730, 0), (162, 89, 0, 732, 734, 27), (165, 90, 0, 736, 737, 738), (166, 92, 0, 744, 745, 746), (169, 93, 0, 748, 750, 28), (172, 94, 0, 752, 753, 754), (175, 95, 0, 756, 757, 758), (178, 96, 0, 760, 761, 762), (181, 98, 0, 768, 770, 29), (184, 99, 0, 772, 773, 774), (187, 101, 1, 780, 781, 0), (190, 102, 0, 783, 784, 785), (193, 104, 0, 793, 795, 30), (196, 107, 0, 807, 808, 809), (199, 105, 0, 797, 798, 799), (202, 106, 0, 806, 802, 803), (205, 11, 0, 815, 370, 371), (208, 110, 0, 820, 822, 31), (211, 111, 0, 825, 826, 827), (214, 112, 0, 830, 831, 832), (217, 65, 0, 627, 628, 629), (220, 114, 0, 838, 840, 32), (223, 115, 0, 842, 843, 844), (227, 117, 0, 852, 853, 854), (230, 119, 0, 860, 862, 33), (233, 120, 0, 864, 865, 866), (236, 122, 0, 872, 873, 874), (240, 124, 0, 886, 887, 888), (243, 125, 0, 890, 891, 892), (246, 126, 0, 894, 895, 896), (250, 128, 0, 902, 904, 35), (253, 129, 0, 906, 908, 36), (256, 40, 0, 910, 516, 517), (259, 130, 0, 911, 913, 37), (262, 132, 0, 919, 921, 38), (266, 135, 0, 931, 933, 39), (270, 136, 0, 935, 937, 40), (274, 138, 1, 944, 945, 0), (277, 140, 0, 951, 953, 41), (281, 12, 0, 958, 374, 375), (284, 8, 0, 955, 357, 358), (285, 26, 0, 956, 454, 455), (288, 27, 0, 957, 458, 459), (291, 142, 0, 963, 964, 965), (295, 144, 0, 971, 972, 973), (298, 145, 0, 975, 976, 977), (301, 147, 0, 983, 985, 42), (304, 41, 0, 824, 521, 522), (307, 148, 1, 987, 988, 0), (312, 149, 0, 993, 994, 995), (317, 151, 1, 1003, 1004, 0), (321, 152, 0, 1007, 1009, 43), (324, 153, 0, 1011, 1013, 44), (327, 154, 1, 1015, 1016, 0)]
def am_f8 : List (Nat × Nat × Nat × Nat × Nat) := [(12, 8, 0, 0, 300), (21, 8, 1, 0, 301), (28, 8, 2, 0, 302), (35, 8, 3, 0, 303), (42, 8, 4, 0, 304), (46, 8, 5, 0, 305), (52, 8, 6, 0, 306), (60, 5, 0, 1, 187), (80, 5, 1, 1, 189)]
def am_ki8 : List (Nat × Int32 × Nat) := [(273, 729000, 943)]
def am_kl8 : List (Nat × Int64 × Nat) := [(315, 311, 1002), (331, 31, 1006)]
def am_m9 : List (Nat × Nat × Nat × Nat × Nat × Nat) := [(76, 156, 1, 1122, 1123, 0), (80, 159, 1, 1133, 1134, 0), (85, 184, 0, 1233, 1235, 67), (89, 181, 0, 1221, 1223, 64), (93, 183, 0, 1229, 1231, 66), (97, 182, 0, 1225, 1227, 65), (104, 199, 0, 1293, 1295, 77), (107, 201, 0, 1301, 1303, 79), (111, 202, 0, 1305, 1307, 80), (114, 200, 0, 1297, 1299, 78), (120, 203, 0, 1309, 1311, 81), (124, 196, 0, 1281, 1283, 74), (128, 197, 0, 1285, 1287, 75), (131, 198, 0, 1289, 1291, 76), (134, 194, 0, 1273, 1275, 72), (137, 195, 0, 1277, 1279, 73), (140, 193, 0, 1269, 1271, 71), (143, 205, 0, 1317, 1319, 83), (146, 215, 0, 1356, 1358, 88), (152, 162, 0, 1144, 1146, 47), (161, 167, 0, 1164, 1166, 52), (170, 169, 1, 1174, 1175, 0), (174, 161, 0, 1140, 1142, 46), (177, 166, 0, 1160, 1162, 51), (181, 164, 0, 1152, 1154, 49), (185, 173, 0, 1189, 1191, 56), (188, 172, 0, 1185, 1187, 55), (192, 174, 0, 1193, 1195, 57), (195, 171, 0, 1181, 1183, 54), (201, 165, 0, 1156, 1158, 50), (204, 168, 1, 1171, 1172, 0), (208, 170, 0, 1177, 1179, 53), (211, 175, 0, 1197, 1199, 58), (214, 176, 0, 1201, 1203, 59), (218, 177, 0, 1205, 1207, 60), (221, 178, 0, 1209, 1211, 61), (224, 163, 0, 1148, 1150, 48), (227, 180, 0, 1217, 1219, 63), (230, 185, 0, 1237, 1239, 68), (233, 160, 0, 1136, 1138, 45), (236, 179, 0, 1213, 1215, 62), (239, 187, 0, 1245, 1247, 69), (242, 192, 0, 1265, 1267, 70), (245, 204, 0, 1313, 1315, 82), (248, 207, 0, 1325, 1327, 84), (251, 208, 0, 1329, 1331, 85), (254, 211, 1, 1341, 1342, 0), (257, 212, 0, 1344, 1346, 86), (260, 214, 0, 1352, 1354, 87), (263, 216, 0, 1360, 1362, 89), (266, 218, 0, 1368, 1370, 90), (269, 220, 1, 1376, 1377, 0), (278, 224, 0, 1392, 1394, 93), (281, 223, 0, 1388, 1390, 92), (284, 222, 0, 1384, 1386, 91), (287, 227, 0, 1404, 1406, 94), (290, 229, 0, 1412, 1414, 95), (293, 230, 0, 1416, 1418, 96), (296, 232, 0, 1424, 1426, 97), (299, 236, 0, 1440, 1442, 99), (302, 235, 0, 1436, 1438, 98), (305, 238, 0, 1448, 1450, 100), (308, 240, 0, 1456, 1458, 101), (311, 243, 0, 1468, 1470, 102), (315, 245, 1, 1476, 1477, 0), (318, 247, 0, 1483, 1485, 103), (321, 251, 0, 1499, 1501, 104), (324, 210, 0, 1503, 1338, 1339), (333, 191, 0, 1519, 1262, 1263), (336, 253, 0, 1510, 1512, 105), (341, 250, 0, 1509, 1496, 1497), (344, 254, 0, 1515, 1517, 106), (347, 255, 0, 1520, 1522, 107), (350, 237, 0, 1524, 1445, 1446)]
def am_f9 : List (Nat × Nat × Nat × Nat × Nat) := [(7, 9, 0, 0, 1024), (13, 9, 1, 0, 1025), (16, 9, 3, 0, 1027), (19, 9, 4, 0, 1028), (22, 9, 5, 0, 1029), (25, 9, 6, 0, 1030), (28, 9, 7, 0, 1031), (31, 9, 8, 0, 1032), (34, 9, 9, 0, 1033), (37, 9, 10, 0, 1034), (40, 9, 11, 0, 1035), (43, 9, 12, 0, 1036), (46, 9, 13, 0, 1037), (49, 9, 15, 0, 1039), (52, 9, 16, 0, 1040), (55, 9, 20, 0, 1044), (58, 9, 22, 0, 1046), (61, 9, 25, 0, 1049), (64, 9, 26, 0, 1050), (67, 9, 27, 0, 1051), (70, 9, 28, 0, 1052), (73, 9, 29, 0, 1053), (100, 9, 2, 0, 1026), (117, 9, 14, 0, 1038), (149, 9, 17, 0, 1041), (155, 9, 18, 0, 1042), (158, 9, 19, 0, 1043), (198, 9, 21, 0, 1045), (272, 9, 24, 0, 1048), (275, 9, 23, 0, 1047), (329, 9, 30, 0, 1054)]
def am_ki9 : List (Nat × Int32 × Nat) := [(84, 729000, 1379)]
def am_kl9 : List (Nat × Int64 × Nat) := [(164, 1125899906842624, 1168), (166, 32, 1169), (168, 96, 1170), (327, 31, 1514), (339, 311, 1508)]
def am_m10 : List (Nat × Nat × Nat × Nat × Nat × Nat) := [(13, 0, 0, 322, 323, 324), (17, 155, 0, 1118, 1119, 1120), (18, 4, 0, 340, 341, 342), (22, 157, 0, 1125, 1126, 1127), (23, 6, 0, 348, 349, 350), (26, 158, 0, 1129, 1130, 1131), (27, 49, 0, 560, 561, 562), (31, 186, 0, 1241, 1242, 1243), (32, 54, 0, 580, 581, 582), (36, 188, 0, 1249, 1250, 1251), (37, 56, 0, 589, 590, 591), (40, 189, 0, 1253, 1254, 1255), (41, 59, 0, 603, 604, 605), (44, 190, 0, 1257, 1258, 1259), (45, 63, 0, 619, 620, 621), (48, 191, 0, 1261, 1262, 1263), (49, 82, 0, 701, 702, 703), (53, 206, 0, 1321, 1322, 1323), (54, 86, 0, 721, 722, 723), (57, 209, 0, 1333, 1334, 1335), (58, 87, 0, 725, 726, 727), (61, 210, 0, 1337, 1338, 1339), (62, 91, 0, 740, 741, 742), (66, 213, 0, 1348, 1349, 1350), (67, 97, 0, 764, 765, 766), (70, 217, 0, 1364, 1365, 1366), (71, 100, 0, 776, 777, 778), (74, 219, 0, 1372, 1373, 1374), (75, 103, 0, 789, 790, 791), (78, 221, 0, 1380, 1381, 1382), (79, 108, 0, 811, 812, 813), (82, 225, 0, 1396, 1397, 1398), (83, 109, 0, 816, 817, 818), (86, 226, 0, 1400, 1401, 1402), (87, 113, 0, 834, 835, 836), (90, 228, 0, 1408, 1409, 1410), (91, 116, 0, 848, 849, 850), (94, 231, 0, 1420, 1421, 1422), (95, 118, 0, 856, 857, 858), (98, 233, 0, 1428, 1429, 1430), (99, 121, 0, 868, 869, 870), (102, 234, 0, 1432, 1433, 1434), (103, 127, 0, 898, 899, 900), (106, 237, 0, 1444, 1445, 1446), (107, 131, 0, 915, 916, 917), (110, 239, 0, 1452, 1453, 1454), (111, 133, 0, 923, 924, 925), (114, 241, 0, 1460, 1461, 1462), (115, 134, 0, 927, 928, 929), (118, 242, 0, 1464, 1465, 1466), (119, 137, 0, 939, 940, 941), (122, 244, 0, 1472, 1473, 1474), (123, 139, 0, 947, 948, 949), (126, 246, 0, 1479, 1480, 1481), (127, 141, 0, 959, 960, 961), (130, 248, 0, 1487, 1488, 1489), (131, 143, 0, 967, 968, 969), (134, 249, 0, 1491, 1492, 1493), (135, 146, 0, 979, 980, 981), (138, 250, 0, 1495, 1496, 1497), (139, 150, 0, 998, 999, 1000), (143, 252, 0, 1504, 1505, 1506)]
def am_f10 : List (Nat × Nat × Nat × Nat × Nat) := []
def am_ki10 : List (Nat × Int32 × Nat) := []
def am_kl10 : List (Nat × Int64 × Nat) := []
def am_m11 : List (Nat × Nat × Nat × Nat × Nat × Nat) := []
def am_f11 : List (Nat × Nat × Nat × Nat × Nat) := []
def am_ki11 : List (Nat × Int32 × Nat) := []
def am_kl11 : List (Nat × Int64 × Nat) := []
def am_m12 : List (Nat × Nat × Nat × Nat × Nat × Nat) := []
def am_f12 : List (Nat × Nat × Nat × Nat × Nat) := []
def am_ki12 : List (Nat × Int32 × Nat) := [(265, 1431655765, 990), (266, 858993459, 991), (267, 252645135, 992)]
def am_kl12 : List (Nat × Int64 × Nat) := []
def am_m13 : List (Nat × Nat × Nat × Nat × Nat × Nat) := []
def am_f13 : List (Nat × Nat × Nat × Nat × Nat) := []
def am_ki13 : List (Nat × Int32 × Nat) := []
def am_kl13 : List (Nat × Int64 × Nat) := []
def am_m14 : List (Nat × Nat × Nat × Nat × Nat × Nat) := [(335, 16, 0, 390, 391, 392), (492, 18, 0, 400, 401, 402), (495, 19, 1, 404, 405, 0), (1059, 21, 1, 412, 413, 0)]
def am_f14 : List (Nat × Nat × Nat × Nat × Nat) := []
def am_ki14 : List (Nat × Int32 × Nat) := []
def am_kl14 : List (Nat × Int64 × Nat) := []
def am_m15 : List (Nat × Nat × Nat × Nat × Nat × Nat) := [(9, 20, 1, 407, 408, 0)]
def am_f15 : List (Nat × Nat × Nat × Nat × Nat) := []
def am_ki15 : List (Nat × Int32 × Nat) := []
def am_kl15 : List (Nat × Int64 × Nat) := []
def am_m16 : List (Nat × Nat × Nat × Nat × Nat × Nat) := []
def am_f16 : List (Nat × Nat × Nat × Nat × Nat) := []
def am_ki16 : List (Nat × Int32 × Nat) := []
def am_kl16 : List (Nat × Int64 × Nat) := []
def am_ks5 : List (Nat × Nat) := [(67, 5), (76, 6), (81, 7), (85, 0), (91, 1), (93, 2), (95, 3), (97, 4), (116, 8)]
def am_m : Nat → List (Nat × Nat × Nat × Nat × Nat × Nat) := fun k => match k with
  | 0 => am_m0
  | 1 => am_m1
  | 2 => am_m2
  | 3 => am_m3
  | 4 => am_m4
  | 5 => am_m5
  | 6 => am_m6
  | 7 => am_m7
  | 8 => am_m8
  | 9 => am_m9
  | 10 => am_m10
  | 11 => am_m11
  | 12 => am_m12
  | 13 => am_m13
  | 14 => am_m14
  | 15 => am_m15
  | 16 => am_m16
  | _ => []
def am_f : Nat → List (Nat × Nat × Nat × Nat × Nat) := fun k => match k with
  | 0 => am_f0
  | 1 => am_f1
  | 2 => am_f2
  | 3 => am_f3
  | 4 => am_f4
  | 5 => am_f5
  | 6 => am_f6
  | 7 => am_f7
  | 8 => am_f8
  | 9 => am_f9
  | 10 => am_f10
  | 11 => am_f11
  | 12 => am_f12
  | 13 => am_f13
  | 14 => am_f14
  | 15 => am_f15
  | 16 => am_f16
  | _ => []
def am_ki : Nat → List (Nat × Int32 × Nat) := fun k => match k with
  | 0 => am_ki0
  | 1 => am_ki1
  | 2 => am_ki2
  | 3 => am_ki3
  | 4 => am_ki4
  | 5 => am_ki5
  | 6 => am_ki6
  | 7 => am_ki7
  | 8 => am_ki8
  | 9 => am_ki9
  | 10 => am_ki10
  | 11 => am_ki11
  | 12 => am_ki12
  | 13 => am_ki13
  | 14 => am_ki14
  | 15 => am_ki15
  | 16 => am_ki16
  | _ => []
def am_kl : Nat → List (Nat × Int64 × Nat) := fun k => match k with
  | 0 => am_kl0
  | 1 => am_kl1
  | 2 => am_kl2
  | 3 => am_kl3
  | 4 => am_kl4
  | 5 => am_kl5
  | 6 => am_kl6
  | 7 => am_kl7
  | 8 => am_kl8
  | 9 => am_kl9
  | 10 => am_kl10
  | 11 => am_kl11
  | 12 => am_kl12
  | 13 => am_kl13
  | 14 => am_kl14
  | 15 => am_kl15
  | 16 => am_kl16
  | _ => []
def am_ml (ow idx : Nat) : Option am_T := match am_as (am_m ow) idx with
  | some q => (match am_ts[q.1]? with | some t => some t.1 | none => none)
  | none => none
def am_fl (ow idx : Nat) : Option (Nat × Nat) := match am_as (am_f ow) idx with
  | some q => some (q.1, q.2.1)
  | none => none
def am_iv : Instr → Option Nat
  | .invokevirtual k => some k
  | .invokestatic k => some k
  | _ => none
def am_vi : Instr → Bool
  | .invokevirtual _ => true
  | _ => false
/-- arraycopy's links -/
def am_ac (ow idx : Nat) : Bool := (Nat.beq ow 6 && Nat.beq idx 25)
/-- the links of Math.min -/
def am_mnl (ow idx : Nat) : Bool := (Nat.beq ow 4 && Nat.beq idx 25) || (Nat.beq ow 1 && Nat.beq idx 34)
/-- the cells: an array of so many ints, or an object of a class: an int 0, a long 1, a boolean 2, k + 3 the cell k -/
def am_LL : List (Nat ⊕ (Nat × List Nat)) := [.inr (8, [4, 10, 12, 15, 18, 37, 56]), .inr (5, [5, 7, 0, 0]), .inr (4, [6, 0]), .inl 120, .inr (2, [8, 0, 0]), .inr (6, [9]), .inl 520, .inr (4, [11, 0]), .inl 1000, .inr (0, [13]), .inr (6, [14]), .inl 1605, .inr (1, [16, 0, 0, 0]), .inr (6, [17]), .inl 19260, .inr (3, [19, 21, 23, 25, 27, 29, 31, 33, 35, 0, 0]), .inr (6, [20]), .inl 40, .inr (6, [22]), .inl 40, .inr (6, [24]), .inl 40, .inr (6, [26]), .inl 240, .inr (6, [28]), .inl 40, .inr (6, [30]), .inl 120, .inr (6, [32]), .inl 120, .inr (6, [34]), .inl 120, .inr (6, [36]), .inl 6, .inr (3, [38, 40, 42, 44, 46, 48, 50, 52, 54, 0, 0]), .inr (6, [39]), .inl 40, .inr (6, [41]), .inl 40, .inr (6, [43]), .inl 40, .inr (6, [45]), .inl 240, .inr (6, [47]), .inl 40, .inr (6, [49]), .inl 120, .inr (6, [51]), .inl 120, .inr (6, [53]), .inl 120, .inr (6, [55]), .inl 6, .inr (7, [57, 59, 0, 2]), .inr (6, [58]), .inl 40, .inr (6, [60]), .inl 40, .inr (9, [62, 63, 0, 64, 65, 66, 67, 68, 69, 70, 71, 72, 73, 74, 0, 75, 76, 0, 0, 0, 77, 0, 78, 0, 0, 79, 80, 81, 82, 83, 1]), .inl 1501, .inl 15010, .inl 3002, .inl 2, .inl 20, .inl 40, .inl 40, .inl 40, .inl 240, .inl 40, .inl 120, .inl 120, .inl 120, .inl 6, .inl 120, .inl 492, .inl 1000, .inl 40, .inl 40, .inl 40, .inl 240, .inl 40]
abbrev am_cl : List vw_C := [(RX0, TX0, 1), (RX1, TX1, 4), (RX2, TX2, 3), (RX3, TX3, 11), (RX4, TX4, 2), (RX5, TX5, 4), (RX6, TX6, 1), (RX7, TX7, 4), (RX8, TX8, 7), (RX9, TX9, 31)]
end
section
/-! what the tables say of the code: decided by the kernel -/
def am_lnok (i : Instr) (n : Nat) : Bool := match i with
  | .tableswitch _ _ _ _ => true
  | .lookupswitch _ _ => true
  | .bipush _ => Nat.beq n 2
  | .ldc _ => Nat.beq n 2
  | .iload _ => Nat.beq n 2
  | .lload _ => Nat.beq n 2
  | .aload _ => Nat.beq n 2
  | .istore _ => Nat.beq n 2
  | .lstore _ => Nat.beq n 2
  | .astore _ => Nat.beq n 2
  | .newarray _ => Nat.beq n 2
  | .sipush _ => Nat.beq n 3
  | .ldc_w _ => Nat.beq n 3
  | .ldc2_w _ => Nat.beq n 3
  | .iinc _ _ => Nat.beq n 3
  | .goto _ => Nat.beq n 3
  | .ifCond _ _ => Nat.beq n 3
  | .if_icmp _ _ => Nat.beq n 3
  | .getstatic _ => Nat.beq n 3
  | .getfield _ => Nat.beq n 3
  | .putfield _ => Nat.beq n 3
  | .invokevirtual _ => Nat.beq n 3
  | .invokestatic _ => Nat.beq n 3
  | .invokespecial _ => Nat.beq n 3
  | .new _ => Nat.beq n 3
  | _ => Nat.beq n 1
def am_psok (i : Instr) : Bool := match i with
  | .lookupswitch _ ps => (ps.toList.zip (ps.toList.drop 1)).all (fun (a, next) => a.1 < next.1)
  | .tableswitch _ lo hi os => decide ((os.size : Int) = hi - lo + 1)
  | _ => true
def am_dok (b : ByteArray) (l : List (Nat × Instr × Nat)) : Bool := l.all fun e => decide (decode b e.1 = .ok (e.2.1, e.2.2)) && am_lnok e.2.1 e.2.2 && am_psok e.2.1
def am_cokI (k : Nat) (e : Nat × Instr × Nat) : Bool := match e.2.1 with
  | .invokevirtual i => (match am_as (am_m k) i with | some q => Nat.beq q.2.1 0 | none => true)
  | .invokestatic i => (match am_as (am_m k) i with | some q => Nat.beq q.2.1 1 | none => true)
  | _ => true
/-- the room for what a method calls -/
def am_rok (t : am_T) : Bool := (am_cd t).all fun e => match am_iv e.2.1 with
  | some k => (match am_ml (am_ow t) k with
    | some t' => Nat.ble (am_fr t' + 1) (am_fr t) && Nat.ble (8 + (am_mL t' + 11) + am_lo t') (am_lo t)
    | none => true) && (!am_ac (am_ow t) k || (Nat.ble 1 (am_fr t) && Nat.ble 18 (am_lo t))) && (!am_mnl (am_ow t) k || (Nat.ble 1 (am_fr t) && Nat.ble 21 (am_lo t)))
  | none => true
def am_nok (q : am_T × Nat × Nat) : Bool := plainName (am_nm q.1).cls && decide ((am_nm q.1).cls ≠ "java/lang/invoke/MethodHandle" ∧ (am_nm q.1).cls ≠ "java/lang/invoke/VarHandle") && decide (lw_tbl[q.2.2]? = some (.initialized (am_nm q.1).cls)) && decide ((am_nm q.1).cls = am_cn (am_ow q.1))
def am_P (q : am_T × Nat × Nat) : Prop := am_dok (am_by q.1) (am_cd q.1) = true ∧ (am_rok q.1 = true ∧ (am_cd q.1).all (am_cokI (am_ow q.1)) = true) ∧ am_nok q = true ∧ lw_tbl[q.2.1]? = some (.code (am_nm q.1) (am_by q.1) (am_mL q.1) (am_rt q.1))
theorem am_P_SB_type : am_P (t_SB_type, 325, 109) := ⟨by decide +kernel, ⟨by decide +kernel, by decide +kernel⟩, by decide +kernel, by decide +kernel⟩
theorem am_P_SB_within : am_P (t_SB_within, 328, 109) := ⟨by decide +kernel, ⟨by decide +kernel, by decide +kernel⟩, by decide +kernel, by decide +kernel⟩
theorem am_P_Pag_kept : am_P (t_Pag_kept, 332, 111) := ⟨by decide +kernel, ⟨by decide +kernel, by decide +kernel⟩, by decide +kernel, by decide +kernel⟩
theorem am_P_Pag_append : am_P (t_Pag_append, 339, 111) := ⟨by decide +kernel, ⟨by decide +kernel, by decide +kernel⟩, by decide +kernel, by decide +kernel⟩
theorem am_P_SB_clear : am_P (t_SB_clear, 343, 109) := ⟨by decide +kernel, ⟨by decide +kernel, by decide +kernel⟩, by decide +kernel, by decide +kernel⟩
theorem am_P_Pag_makeEmpty : am_P (t_Pag_makeEmpty, 347, 111) := ⟨by decide +kernel, ⟨by decide +kernel, by decide +kernel⟩, by decide +kernel, by decide +kernel⟩
theorem am_P_SB_enact : am_P (t_SB_enact, 351, 109) := ⟨by decide +kernel, ⟨by decide +kernel, by decide +kernel⟩, by decide +kernel, by decide +kernel⟩
theorem am_P_Rea_readAmendment : am_P (t_Rea_readAmendment, 355, 110) := ⟨by decide +kernel, ⟨by decide +kernel, by decide +kernel⟩, by decide +kernel, by decide +kernel⟩
theorem am_P_Dra_makeEmpty : am_P (t_Dra_makeEmpty, 359, 113) := ⟨by decide +kernel, ⟨by decide +kernel, by decide +kernel⟩, by decide +kernel, by decide +kernel⟩
theorem am_P_Rea_readOperation : am_P (t_Rea_readOperation, 363, 110) := ⟨by decide +kernel, ⟨by decide +kernel, by decide +kernel⟩, by decide +kernel, by decide +kernel⟩
theorem am_P_Rea_skipBlanks : am_P (t_Rea_skipBlanks, 367, 110) := ⟨by decide +kernel, ⟨by decide +kernel, by decide +kernel⟩, by decide +kernel, by decide +kernel⟩
theorem am_P_Pag_byteAt : am_P (t_Pag_byteAt, 372, 111) := ⟨by decide +kernel, ⟨by decide +kernel, by decide +kernel⟩, by decide +kernel, by decide +kernel⟩
theorem am_P_Dra_size : am_P (t_Dra_size, 376, 113) := ⟨by decide +kernel, ⟨by decide +kernel, by decide +kernel⟩, by decide +kernel, by decide +kernel⟩
theorem am_P_Rea_readKind : am_P (t_Rea_readKind, 380, 110) := ⟨by decide +kernel, ⟨by decide +kernel, by decide +kernel⟩, by decide +kernel, by decide +kernel⟩
theorem am_P_Rea_passes : am_P (t_Rea_passes, 385, 110) := ⟨by decide +kernel, ⟨by decide +kernel, by decide +kernel⟩, by decide +kernel, by decide +kernel⟩
theorem am_P_Str_length : am_P (t_Str_length, 389, 120) := ⟨by decide +kernel, ⟨by decide +kernel, by decide +kernel⟩, by decide +kernel, by decide +kernel⟩
theorem am_P_Str_coder : am_P (t_Str_coder, 393, 120) := ⟨by decide +kernel, ⟨by decide +kernel, by decide +kernel⟩, by decide +kernel, by decide +kernel⟩
theorem am_P_Str_charAt : am_P (t_Str_charAt, 399, 120) := ⟨by decide +kernel, ⟨by decide +kernel, by decide +kernel⟩, by decide +kernel, by decide +kernel⟩
theorem am_P_Str_isLatin1 : am_P (t_Str_isLatin1, 403, 120) := ⟨by decide +kernel, ⟨by decide +kernel, by decide +kernel⟩, by decide +kernel, by decide +kernel⟩
theorem am_P_SL1_charAt : am_P (t_SL1_charAt, 406, 121) := ⟨by decide +kernel, ⟨by decide +kernel, by decide +kernel⟩, by decide +kernel, by decide +kernel⟩
theorem am_P_Str_checkIndex : am_P (t_Str_checkIndex, 409, 120) := ⟨by decide +kernel, ⟨by decide +kernel, by decide +kernel⟩, by decide +kernel, by decide +kernel⟩
theorem am_P_Pre_checkIndex : am_P (t_Pre_checkIndex, 414, 122) := ⟨by decide +kernel, ⟨by decide +kernel, by decide +kernel⟩, by decide +kernel, by decide +kernel⟩
theorem am_P_Rea_isBetween : am_P (t_Rea_isBetween, 436, 110) := ⟨by decide +kernel, ⟨by decide +kernel, by decide +kernel⟩, by decide +kernel, by decide +kernel⟩
theorem am_P_Rea_fail : am_P (t_Rea_fail, 444, 110) := ⟨by decide +kernel, ⟨by decide +kernel, by decide +kernel⟩, by decide +kernel, by decide +kernel⟩
theorem am_P_Rea_readNumber : am_P (t_Rea_readNumber, 448, 110) := ⟨by decide +kernel, ⟨by decide +kernel, by decide +kernel⟩, by decide +kernel, by decide +kernel⟩
theorem am_P_Rea_readDigits : am_P (t_Rea_readDigits, 452, 110) := ⟨by decide +kernel, ⟨by decide +kernel, by decide +kernel⟩, by decide +kernel, by decide +kernel⟩
theorem am_P_Dra_begin : am_P (t_Dra_begin, 456, 113) := ⟨by decide +kernel, ⟨by decide +kernel, by decide +kernel⟩, by decide +kernel, by decide +kernel⟩
theorem am_P_Dra_put : am_P (t_Dra_put, 460, 113) := ⟨by decide +kernel, ⟨by decide +kernel, by decide +kernel⟩, by decide +kernel, by decide +kernel⟩
theorem am_P_Row_set : am_P (t_Row_set, 464, 114) := ⟨by decide +kernel, ⟨by decide +kernel, by decide +kernel⟩, by decide +kernel, by decide +kernel⟩
theorem am_P_Rea_readWords : am_P (t_Rea_readWords, 468, 110) := ⟨by decide +kernel, ⟨by decide +kernel, by decide +kernel⟩, by decide +kernel, by decide +kernel⟩
theorem am_P_Rea_isAtWord : am_P (t_Rea_isAtWord, 472, 110) := ⟨by decide +kernel, ⟨by decide +kernel, by decide +kernel⟩, by decide +kernel, by decide +kernel⟩
theorem am_P_Dra_addWord : am_P (t_Dra_addWord, 476, 113) := ⟨by decide +kernel, ⟨by decide +kernel, by decide +kernel⟩, by decide +kernel, by decide +kernel⟩
theorem am_P_Row_get : am_P (t_Row_get, 480, 114) := ⟨by decide +kernel, ⟨by decide +kernel, by decide +kernel⟩, by decide +kernel, by decide +kernel⟩
theorem am_P_Rea_expect : am_P (t_Rea_expect, 485, 110) := ⟨by decide +kernel, ⟨by decide +kernel, by decide +kernel⟩, by decide +kernel, by decide +kernel⟩
theorem am_P_Rea_readPlain : am_P (t_Rea_readPlain, 491, 110) := ⟨by decide +kernel, ⟨by decide +kernel, by decide +kernel⟩, by decide +kernel, by decide +kernel⟩
theorem am_P_Rea_readSaving : am_P (t_Rea_readSaving, 496, 110) := ⟨by decide +kernel, ⟨by decide +kernel, by decide +kernel⟩, by decide +kernel, by decide +kernel⟩
theorem am_P_Rea_readSemicolon : am_P (t_Rea_readSemicolon, 501, 110) := ⟨by decide +kernel, ⟨by decide +kernel, by decide +kernel⟩, by decide +kernel, by decide +kernel⟩
theorem am_P_SB_addDraft : am_P (t_SB_addDraft, 505, 109) := ⟨by decide +kernel, ⟨by decide +kernel, by decide +kernel⟩, by decide +kernel, by decide +kernel⟩
theorem am_P_Amd_hasRoomFor : am_P (t_Amd_hasRoomFor, 509, 115) := ⟨by decide +kernel, ⟨by decide +kernel, by decide +kernel⟩, by decide +kernel, by decide +kernel⟩
theorem am_P_Amd_size : am_P (t_Amd_size, 513, 115) := ⟨by decide +kernel, ⟨by decide +kernel, by decide +kernel⟩, by decide +kernel, by decide +kernel⟩
theorem am_P_Amd_operations : am_P (t_Amd_operations, 518, 115) := ⟨by decide +kernel, ⟨by decide +kernel, by decide +kernel⟩, by decide +kernel, by decide +kernel⟩
theorem am_P_Amd_identities : am_P (t_Amd_identities, 523, 115) := ⟨by decide +kernel, ⟨by decide +kernel, by decide +kernel⟩, by decide +kernel, by decide +kernel⟩
theorem am_P_Dra_inserts : am_P (t_Dra_inserts, 527, 113) := ⟨by decide +kernel, ⟨by decide +kernel, by decide +kernel⟩, by decide +kernel, by decide +kernel⟩
theorem am_P_Arc_push : am_P (t_Arc_push, 531, 116) := ⟨by decide +kernel, ⟨by decide +kernel, by decide +kernel⟩, by decide +kernel, by decide +kernel⟩
theorem am_P_Arc_putAway : am_P (t_Arc_putAway, 536, 116) := ⟨by decide +kernel, ⟨by decide +kernel, by decide +kernel⟩, by decide +kernel, by decide +kernel⟩
theorem am_P_Row_take : am_P (t_Row_take, 540, 114) := ⟨by decide +kernel, ⟨by decide +kernel, by decide +kernel⟩, by decide +kernel, by decide +kernel⟩
theorem am_P_Amd_add : am_P (t_Amd_add, 547, 115) := ⟨by decide +kernel, ⟨by decide +kernel, by decide +kernel⟩, by decide +kernel, by decide +kernel⟩
theorem am_P_Amd_cell : am_P (t_Amd_cell, 552, 115) := ⟨by decide +kernel, ⟨by decide +kernel, by decide +kernel⟩, by decide +kernel, by decide +kernel⟩
theorem am_P_Amd_setDay : am_P (t_Amd_setDay, 557, 115) := ⟨by decide +kernel, ⟨by decide +kernel, by decide +kernel⟩, by decide +kernel, by decide +kernel⟩
theorem am_P_SB_revoke : am_P (t_SB_revoke, 563, 109) := ⟨by decide +kernel, ⟨by decide +kernel, by decide +kernel⟩, by decide +kernel, by decide +kernel⟩
theorem am_P_Amd_has : am_P (t_Amd_has, 567, 115) := ⟨by decide +kernel, ⟨by decide +kernel, by decide +kernel⟩, by decide +kernel, by decide +kernel⟩
theorem am_P_Amd_isRevoked : am_P (t_Amd_isRevoked, 571, 115) := ⟨by decide +kernel, ⟨by decide +kernel, by decide +kernel⟩, by decide +kernel, by decide +kernel⟩
theorem am_P_Amd_revoked : am_P (t_Amd_revoked, 575, 115) := ⟨by decide +kernel, ⟨by decide +kernel, by decide +kernel⟩, by decide +kernel, by decide +kernel⟩
theorem am_P_Amd_setRevoked : am_P (t_Amd_setRevoked, 579, 115) := ⟨by decide +kernel, ⟨by decide +kernel, by decide +kernel⟩, by decide +kernel, by decide +kernel⟩
theorem am_P_SB_commence : am_P (t_SB_commence, 583, 109) := ⟨by decide +kernel, ⟨by decide +kernel, by decide +kernel⟩, by decide +kernel, by decide +kernel⟩
theorem am_P_Amd_day : am_P (t_Amd_day, 587, 115) := ⟨by decide +kernel, ⟨by decide +kernel, by decide +kernel⟩, by decide +kernel, by decide +kernel⟩
theorem am_P_SB_withdraw : am_P (t_SB_withdraw, 592, 109) := ⟨by decide +kernel, ⟨by decide +kernel, by decide +kernel⟩, by decide +kernel, by decide +kernel⟩
theorem am_P_Amd_removeLast : am_P (t_Amd_removeLast, 596, 115) := ⟨by decide +kernel, ⟨by decide +kernel, by decide +kernel⟩, by decide +kernel, by decide +kernel⟩
theorem am_P_Amd_start : am_P (t_Amd_start, 600, 115) := ⟨by decide +kernel, ⟨by decide +kernel, by decide +kernel⟩, by decide +kernel, by decide +kernel⟩
theorem am_P_SB_undo : am_P (t_SB_undo, 606, 109) := ⟨by decide +kernel, ⟨by decide +kernel, by decide +kernel⟩, by decide +kernel, by decide +kernel⟩
theorem am_P_Arc_states : am_P (t_Arc_states, 610, 116) := ⟨by decide +kernel, ⟨by decide +kernel, by decide +kernel⟩, by decide +kernel, by decide +kernel⟩
theorem am_P_Arc_pop : am_P (t_Arc_pop, 614, 116) := ⟨by decide +kernel, ⟨by decide +kernel, by decide +kernel⟩, by decide +kernel, by decide +kernel⟩
theorem am_P_Arc_bring : am_P (t_Arc_bring, 618, 116) := ⟨by decide +kernel, ⟨by decide +kernel, by decide +kernel⟩, by decide +kernel, by decide +kernel⟩
theorem am_P_SB_amendment : am_P (t_SB_amendment, 622, 109) := ⟨by decide +kernel, ⟨by decide +kernel, by decide +kernel⟩, by decide +kernel, by decide +kernel⟩
theorem am_P_SB_consolidateFully : am_P (t_SB_consolidateFully, 626, 109) := ⟨by decide +kernel, ⟨by decide +kernel, by decide +kernel⟩, by decide +kernel, by decide +kernel⟩
theorem am_P_Law_consolidate : am_P (t_Law_consolidate, 630, 117) := ⟨by decide +kernel, ⟨by decide +kernel, by decide +kernel⟩, by decide +kernel, by decide +kernel⟩
theorem am_P_Row_fill : am_P (t_Row_fill, 634, 114) := ⟨by decide +kernel, ⟨by decide +kernel, by decide +kernel⟩, by decide +kernel, by decide +kernel⟩
theorem am_P_Arr_fill : am_P (t_Arr_fill, 637, 125) := ⟨by decide +kernel, ⟨by decide +kernel, by decide +kernel⟩, by decide +kernel, by decide +kernel⟩
theorem am_P_Law_nextKey : am_P (t_Law_nextKey, 640, 117) := ⟨by decide +kernel, ⟨by decide +kernel, by decide +kernel⟩, by decide +kernel, by decide +kernel⟩
theorem am_P_Law_carryOut : am_P (t_Law_carryOut, 646, 117) := ⟨by decide +kernel, ⟨by decide +kernel, by decide +kernel⟩, by decide +kernel, by decide +kernel⟩
theorem am_P_Law_holder : am_P (t_Law_holder, 652, 117) := ⟨by decide +kernel, ⟨by decide +kernel, by decide +kernel⟩, by decide +kernel, by decide +kernel⟩
theorem am_P_Law_resolves : am_P (t_Law_resolves, 657, 117) := ⟨by decide +kernel, ⟨by decide +kernel, by decide +kernel⟩, by decide +kernel, by decide +kernel⟩
theorem am_P_Law_reason : am_P (t_Law_reason, 662, 117) := ⟨by decide +kernel, ⟨by decide +kernel, by decide +kernel⟩, by decide +kernel, by decide +kernel⟩
theorem am_P_Law_contains : am_P (t_Law_contains, 666, 117) := ⟨by decide +kernel, ⟨by decide +kernel, by decide +kernel⟩, by decide +kernel, by decide +kernel⟩
theorem am_P_Law_perform : am_P (t_Law_perform, 670, 117) := ⟨by decide +kernel, ⟨by decide +kernel, by decide +kernel⟩, by decide +kernel, by decide +kernel⟩
theorem am_P_Law_setText : am_P (t_Law_setText, 674, 117) := ⟨by decide +kernel, ⟨by decide +kernel, by decide +kernel⟩, by decide +kernel, by decide +kernel⟩
theorem am_P_Law_change : am_P (t_Law_change, 679, 117) := ⟨by decide +kernel, ⟨by decide +kernel, by decide +kernel⟩, by decide +kernel, by decide +kernel⟩
theorem am_P_Law_arrange : am_P (t_Law_arrange, 683, 117) := ⟨by decide +kernel, ⟨by decide +kernel, by decide +kernel⟩, by decide +kernel, by decide +kernel⟩
theorem am_P_SB_amendmentPart : am_P (t_SB_amendmentPart, 687, 109) := ⟨by decide +kernel, ⟨by decide +kernel, by decide +kernel⟩, by decide +kernel, by decide +kernel⟩
theorem am_P_Amd_operationsOf : am_P (t_Amd_operationsOf, 691, 115) := ⟨by decide +kernel, ⟨by decide +kernel, by decide +kernel⟩, by decide +kernel, by decide +kernel⟩
theorem am_P_Law_effective : am_P (t_Law_effective, 696, 117) := ⟨by decide +kernel, ⟨by decide +kernel, by decide +kernel⟩, by decide +kernel, by decide +kernel⟩
theorem am_P_Law_status : am_P (t_Law_status, 700, 117) := ⟨by decide +kernel, ⟨by decide +kernel, by decide +kernel⟩, by decide +kernel, by decide +kernel⟩
theorem am_P_SB_operation : am_P (t_SB_operation, 704, 109) := ⟨by decide +kernel, ⟨by decide +kernel, by decide +kernel⟩, by decide +kernel, by decide +kernel⟩
theorem am_P_Amd_hasOperation : am_P (t_Amd_hasOperation, 708, 115) := ⟨by decide +kernel, ⟨by decide +kernel, by decide +kernel⟩, by decide +kernel, by decide +kernel⟩
theorem am_P_SB_operationPart : am_P (t_SB_operationPart, 714, 109) := ⟨by decide +kernel, ⟨by decide +kernel, by decide +kernel⟩, by decide +kernel, by decide +kernel⟩
theorem am_P_Law_affected : am_P (t_Law_affected, 719, 117) := ⟨by decide +kernel, ⟨by decide +kernel, by decide +kernel⟩, by decide +kernel, by decide +kernel⟩
theorem am_P_SB_word : am_P (t_SB_word, 724, 109) := ⟨by decide +kernel, ⟨by decide +kernel, by decide +kernel⟩, by decide +kernel, by decide +kernel⟩
theorem am_P_SB_clauses : am_P (t_SB_clauses, 728, 109) := ⟨by decide +kernel, ⟨by decide +kernel, by decide +kernel⟩, by decide +kernel, by decide +kernel⟩
theorem am_P_SB_isLaw : am_P (t_SB_isLaw, 731, 109) := ⟨by decide +kernel, ⟨by decide +kernel, by decide +kernel⟩, by decide +kernel, by decide +kernel⟩
theorem am_P_SB_consolidate : am_P (t_SB_consolidate, 735, 109) := ⟨by decide +kernel, ⟨by decide +kernel, by decide +kernel⟩, by decide +kernel, by decide +kernel⟩
theorem am_P_Law_size : am_P (t_Law_size, 739, 117) := ⟨by decide +kernel, ⟨by decide +kernel, by decide +kernel⟩, by decide +kernel, by decide +kernel⟩
theorem am_P_SB_clause : am_P (t_SB_clause, 743, 109) := ⟨by decide +kernel, ⟨by decide +kernel, by decide +kernel⟩, by decide +kernel, by decide +kernel⟩
theorem am_P_Law_at : am_P (t_Law_at, 747, 117) := ⟨by decide +kernel, ⟨by decide +kernel, by decide +kernel⟩, by decide +kernel, by decide +kernel⟩
theorem am_P_SB_clausePart : am_P (t_SB_clausePart, 751, 109) := ⟨by decide +kernel, ⟨by decide +kernel, by decide +kernel⟩, by decide +kernel, by decide +kernel⟩
theorem am_P_Law_code : am_P (t_Law_code, 755, 117) := ⟨by decide +kernel, ⟨by decide +kernel, by decide +kernel⟩, by decide +kernel, by decide +kernel⟩
theorem am_P_Law_length : am_P (t_Law_length, 759, 117) := ⟨by decide +kernel, ⟨by decide +kernel, by decide +kernel⟩, by decide +kernel, by decide +kernel⟩
theorem am_P_Law_lastDay : am_P (t_Law_lastDay, 763, 117) := ⟨by decide +kernel, ⟨by decide +kernel, by decide +kernel⟩, by decide +kernel, by decide +kernel⟩
theorem am_P_SB_textWord : am_P (t_SB_textWord, 767, 109) := ⟨by decide +kernel, ⟨by decide +kernel, by decide +kernel⟩, by decide +kernel, by decide +kernel⟩
theorem am_P_SB_presentWord : am_P (t_SB_presentWord, 771, 109) := ⟨by decide +kernel, ⟨by decide +kernel, by decide +kernel⟩, by decide +kernel, by decide +kernel⟩
theorem am_P_Law_said : am_P (t_Law_said, 775, 117) := ⟨by decide +kernel, ⟨by decide +kernel, by decide +kernel⟩, by decide +kernel, by decide +kernel⟩
theorem am_P_SB_find : am_P (t_SB_find, 779, 109) := ⟨by decide +kernel, ⟨by decide +kernel, by decide +kernel⟩, by decide +kernel, by decide +kernel⟩
theorem am_P_SB_isCode : am_P (t_SB_isCode, 782, 109) := ⟨by decide +kernel, ⟨by decide +kernel, by decide +kernel⟩, by decide +kernel, by decide +kernel⟩
theorem am_P_Law_indexOf : am_P (t_Law_indexOf, 786, 117) := ⟨by decide +kernel, ⟨by decide +kernel, by decide +kernel⟩, by decide +kernel, by decide +kernel⟩
theorem am_P_SB_print : am_P (t_SB_print, 792, 109) := ⟨by decide +kernel, ⟨by decide +kernel, by decide +kernel⟩, by decide +kernel, by decide +kernel⟩
theorem am_P_SB_printClause : am_P (t_SB_printClause, 796, 109) := ⟨by decide +kernel, ⟨by decide +kernel, by decide +kernel⟩, by decide +kernel, by decide +kernel⟩
theorem am_P_Pag_appendNumber : am_P (t_Pag_appendNumber, 800, 111) := ⟨by decide +kernel, ⟨by decide +kernel, by decide +kernel⟩, by decide +kernel, by decide +kernel⟩
theorem am_P_Pag_appendInteger : am_P (t_Pag_appendInteger, 804, 111) := ⟨by decide +kernel, ⟨by decide +kernel, by decide +kernel⟩, by decide +kernel, by decide +kernel⟩
theorem am_P_Pag_written : am_P (t_Pag_written, 810, 111) := ⟨by decide +kernel, ⟨by decide +kernel, by decide +kernel⟩, by decide +kernel, by decide +kernel⟩
theorem am_P_SB_printed : am_P (t_SB_printed, 814, 109) := ⟨by decide +kernel, ⟨by decide +kernel, by decide +kernel⟩, by decide +kernel, by decide +kernel⟩
theorem am_P_SB_history : am_P (t_SB_history, 819, 109) := ⟨by decide +kernel, ⟨by decide +kernel, by decide +kernel⟩, by decide +kernel, by decide +kernel⟩
theorem am_P_SB_isIdentity : am_P (t_SB_isIdentity, 823, 109) := ⟨by decide +kernel, ⟨by decide +kernel, by decide +kernel⟩, by decide +kernel, by decide +kernel⟩
theorem am_P_Law_effectOn : am_P (t_Law_effectOn, 828, 117) := ⟨by decide +kernel, ⟨by decide +kernel, by decide +kernel⟩, by decide +kernel, by decide +kernel⟩
theorem am_P_Amd_amendmentOf : am_P (t_Amd_amendmentOf, 833, 115) := ⟨by decide +kernel, ⟨by decide +kernel, by decide +kernel⟩, by decide +kernel, by decide +kernel⟩
theorem am_P_SB_difference : am_P (t_SB_difference, 837, 109) := ⟨by decide +kernel, ⟨by decide +kernel, by decide +kernel⟩, by decide +kernel, by decide +kernel⟩
theorem am_P_SB_differs : am_P (t_SB_differs, 841, 109) := ⟨by decide +kernel, ⟨by decide +kernel, by decide +kernel⟩, by decide +kernel, by decide +kernel⟩
theorem am_P_Law_saysTheSame : am_P (t_Law_saysTheSame, 845, 117) := ⟨by decide +kernel, ⟨by decide +kernel, by decide +kernel⟩, by decide +kernel, by decide +kernel⟩
theorem am_P_SB_containing : am_P (t_SB_containing, 851, 109) := ⟨by decide +kernel, ⟨by decide +kernel, by decide +kernel⟩, by decide +kernel, by decide +kernel⟩
theorem am_P_Law_clausesWith : am_P (t_Law_clausesWith, 855, 117) := ⟨by decide +kernel, ⟨by decide +kernel, by decide +kernel⟩, by decide +kernel, by decide +kernel⟩
theorem am_P_SB_references : am_P (t_SB_references, 859, 109) := ⟨by decide +kernel, ⟨by decide +kernel, by decide +kernel⟩, by decide +kernel, by decide +kernel⟩
theorem am_P_SB_referencesFrom : am_P (t_SB_referencesFrom, 863, 109) := ⟨by decide +kernel, ⟨by decide +kernel, by decide +kernel⟩, by decide +kernel, by decide +kernel⟩
theorem am_P_Law_target : am_P (t_Law_target, 867, 117) := ⟨by decide +kernel, ⟨by decide +kernel, by decide +kernel⟩, by decide +kernel, by decide +kernel⟩
theorem am_P_SB_reach : am_P (t_SB_reach, 871, 109) := ⟨by decide +kernel, ⟨by decide +kernel, by decide +kernel⟩, by decide +kernel, by decide +kernel⟩
theorem am_P_Wal_follow : am_P (t_Wal_follow, 875, 118) := ⟨by decide +kernel, ⟨by decide +kernel, by decide +kernel⟩, by decide +kernel, by decide +kernel⟩
theorem am_P_Wal_meet : am_P (t_Wal_meet, 880, 118) := ⟨by decide +kernel, ⟨by decide +kernel, by decide +kernel⟩, by decide +kernel, by decide +kernel⟩
theorem am_P_Wal_reached : am_P (t_Wal_reached, 889, 118) := ⟨by decide +kernel, ⟨by decide +kernel, by decide +kernel⟩, by decide +kernel, by decide +kernel⟩
theorem am_P_Wal_greatestDistance : am_P (t_Wal_greatestDistance, 893, 118) := ⟨by decide +kernel, ⟨by decide +kernel, by decide +kernel⟩, by decide +kernel, by decide +kernel⟩
theorem am_P_Wal_comesBack : am_P (t_Wal_comesBack, 897, 118) := ⟨by decide +kernel, ⟨by decide +kernel, by decide +kernel⟩, by decide +kernel, by decide +kernel⟩
theorem am_P_SB_tally : am_P (t_SB_tally, 901, 109) := ⟨by decide +kernel, ⟨by decide +kernel, by decide +kernel⟩, by decide +kernel, by decide +kernel⟩
theorem am_P_SB_tallyPart : am_P (t_SB_tallyPart, 905, 109) := ⟨by decide +kernel, ⟨by decide +kernel, by decide +kernel⟩, by decide +kernel, by decide +kernel⟩
theorem am_P_SB_conflicts : am_P (t_SB_conflicts, 909, 109) := ⟨by decide +kernel, ⟨by decide +kernel, by decide +kernel⟩, by decide +kernel, by decide +kernel⟩
theorem am_P_SB_clash : am_P (t_SB_clash, 914, 109) := ⟨by decide +kernel, ⟨by decide +kernel, by decide +kernel⟩, by decide +kernel, by decide +kernel⟩
theorem am_P_SB_conflict : am_P (t_SB_conflict, 918, 109) := ⟨by decide +kernel, ⟨by decide +kernel, by decide +kernel⟩, by decide +kernel, by decide +kernel⟩
theorem am_P_SB_conflictPart : am_P (t_SB_conflictPart, 922, 109) := ⟨by decide +kernel, ⟨by decide +kernel, by decide +kernel⟩, by decide +kernel, by decide +kernel⟩
theorem am_P_SB_effect : am_P (t_SB_effect, 926, 109) := ⟨by decide +kernel, ⟨by decide +kernel, by decide +kernel⟩, by decide +kernel, by decide +kernel⟩
theorem am_P_SB_fewestRevocations : am_P (t_SB_fewestRevocations, 930, 109) := ⟨by decide +kernel, ⟨by decide +kernel, by decide +kernel⟩, by decide +kernel, by decide +kernel⟩
theorem am_P_SB_vanishes : am_P (t_SB_vanishes, 934, 109) := ⟨by decide +kernel, ⟨by decide +kernel, by decide +kernel⟩, by decide +kernel, by decide +kernel⟩
theorem am_P_SB_isCarriedOut : am_P (t_SB_isCarriedOut, 938, 109) := ⟨by decide +kernel, ⟨by decide +kernel, by decide +kernel⟩, by decide +kernel, by decide +kernel⟩
theorem am_P_SB_between : am_P (t_SB_between, 942, 109) := ⟨by decide +kernel, ⟨by decide +kernel, by decide +kernel⟩, by decide +kernel, by decide +kernel⟩
theorem am_P_SB_numberBetween : am_P (t_SB_numberBetween, 946, 109) := ⟨by decide +kernel, ⟨by decide +kernel, by decide +kernel⟩, by decide +kernel, by decide +kernel⟩
theorem am_P_SB_tidy : am_P (t_SB_tidy, 950, 109) := ⟨by decide +kernel, ⟨by decide +kernel, by decide +kernel⟩, by decide +kernel, by decide +kernel⟩
theorem am_P_SB_draftTidying : am_P (t_SB_draftTidying, 954, 109) := ⟨by decide +kernel, ⟨by decide +kernel, by decide +kernel⟩, by decide +kernel, by decide +kernel⟩
theorem am_P_SB_save : am_P (t_SB_save, 962, 109) := ⟨by decide +kernel, ⟨by decide +kernel, by decide +kernel⟩, by decide +kernel, by decide +kernel⟩
theorem am_P_Arc_keepSnapshot : am_P (t_Arc_keepSnapshot, 966, 116) := ⟨by decide +kernel, ⟨by decide +kernel, by decide +kernel⟩, by decide +kernel, by decide +kernel⟩
theorem am_P_SB_restore : am_P (t_SB_restore, 970, 109) := ⟨by decide +kernel, ⟨by decide +kernel, by decide +kernel⟩, by decide +kernel, by decide +kernel⟩
theorem am_P_Arc_hasSnapshot : am_P (t_Arc_hasSnapshot, 974, 116) := ⟨by decide +kernel, ⟨by decide +kernel, by decide +kernel⟩, by decide +kernel, by decide +kernel⟩
theorem am_P_Arc_bringSnapshot : am_P (t_Arc_bringSnapshot, 978, 116) := ⟨by decide +kernel, ⟨by decide +kernel, by decide +kernel⟩, by decide +kernel, by decide +kernel⟩
theorem am_P_SB_count : am_P (t_SB_count, 982, 109) := ⟨by decide +kernel, ⟨by decide +kernel, by decide +kernel⟩, by decide +kernel, by decide +kernel⟩
theorem am_P_SB_countPart : am_P (t_SB_countPart, 986, 109) := ⟨by decide +kernel, ⟨by decide +kernel, by decide +kernel⟩, by decide +kernel, by decide +kernel⟩
theorem am_P_Int_bitCount : am_P (t_Int_bitCount, 989, 126) := ⟨by decide +kernel, ⟨by decide +kernel, by decide +kernel⟩, by decide +kernel, by decide +kernel⟩
theorem am_P_Arc_snapshots : am_P (t_Arc_snapshots, 996, 116) := ⟨by decide +kernel, ⟨by decide +kernel, by decide +kernel⟩, by decide +kernel, by decide +kernel⟩
theorem am_P_SB_digest : am_P (t_SB_digest, 1001, 109) := ⟨by decide +kernel, ⟨by decide +kernel, by decide +kernel⟩, by decide +kernel, by decide +kernel⟩
theorem am_P_SB_mixed : am_P (t_SB_mixed, 1005, 109) := ⟨by decide +kernel, ⟨by decide +kernel, by decide +kernel⟩, by decide +kernel, by decide +kernel⟩
theorem am_P_SB_mixedAmendment : am_P (t_SB_mixedAmendment, 1010, 109) := ⟨by decide +kernel, ⟨by decide +kernel, by decide +kernel⟩, by decide +kernel, by decide +kernel⟩
theorem am_P_SB_mixedClause : am_P (t_SB_mixedClause, 1014, 109) := ⟨by decide +kernel, ⟨by decide +kernel, by decide +kernel⟩, by decide +kernel, by decide +kernel⟩
theorem am_P_SB_mixedPage : am_P (t_SB_mixedPage, 1017, 109) := ⟨by decide +kernel, ⟨by decide +kernel, by decide +kernel⟩, by decide +kernel, by decide +kernel⟩
theorem am_P_Mo_type : am_P (t_Mo_type, 1121, 119) := ⟨by decide +kernel, ⟨by decide +kernel, by decide +kernel⟩, by decide +kernel, by decide +kernel⟩
theorem am_P_Mo_in : am_P (t_Mo_in, 1124, 119) := ⟨by decide +kernel, ⟨by decide +kernel, by decide +kernel⟩, by decide +kernel, by decide +kernel⟩
theorem am_P_Mo_clear : am_P (t_Mo_clear, 1128, 119) := ⟨by decide +kernel, ⟨by decide +kernel, by decide +kernel⟩, by decide +kernel, by decide +kernel⟩
theorem am_P_Mo_enact : am_P (t_Mo_enact, 1132, 119) := ⟨by decide +kernel, ⟨by decide +kernel, by decide +kernel⟩, by decide +kernel, by decide +kernel⟩
theorem am_P_Mo_isDay : am_P (t_Mo_isDay, 1135, 119) := ⟨by decide +kernel, ⟨by decide +kernel, by decide +kernel⟩, by decide +kernel, by decide +kernel⟩
theorem am_P_Mo_readsAll : am_P (t_Mo_readsAll, 1139, 119) := ⟨by decide +kernel, ⟨by decide +kernel, by decide +kernel⟩, by decide +kernel, by decide +kernel⟩
theorem am_P_Mo_skips : am_P (t_Mo_skips, 1143, 119) := ⟨by decide +kernel, ⟨by decide +kernel, by decide +kernel⟩, by decide +kernel, by decide +kernel⟩
theorem am_P_Mo_byteAt : am_P (t_Mo_byteAt, 1147, 119) := ⟨by decide +kernel, ⟨by decide +kernel, by decide +kernel⟩, by decide +kernel, by decide +kernel⟩
theorem am_P_Mo_readsOperation : am_P (t_Mo_readsOperation, 1151, 119) := ⟨by decide +kernel, ⟨by decide +kernel, by decide +kernel⟩, by decide +kernel, by decide +kernel⟩
theorem am_P_Mo_fails : am_P (t_Mo_fails, 1155, 119) := ⟨by decide +kernel, ⟨by decide +kernel, by decide +kernel⟩, by decide +kernel, by decide +kernel⟩
theorem am_P_Mo_puts : am_P (t_Mo_puts, 1159, 119) := ⟨by decide +kernel, ⟨by decide +kernel, by decide +kernel⟩, by decide +kernel, by decide +kernel⟩
theorem am_P_Mo_readsLetters : am_P (t_Mo_readsLetters, 1163, 119) := ⟨by decide +kernel, ⟨by decide +kernel, by decide +kernel⟩, by decide +kernel, by decide +kernel⟩
theorem am_P_Mo_isSmall : am_P (t_Mo_isSmall, 1167, 119) := ⟨by decide +kernel, ⟨by decide +kernel, by decide +kernel⟩, by decide +kernel, by decide +kernel⟩
theorem am_P_Mo_kindOf : am_P (t_Mo_kindOf, 1173, 119) := ⟨by decide +kernel, ⟨by decide +kernel, by decide +kernel⟩, by decide +kernel, by decide +kernel⟩
theorem am_P_Mo_lettersOf : am_P (t_Mo_lettersOf, 1176, 119) := ⟨by decide +kernel, ⟨by decide +kernel, by decide +kernel⟩, by decide +kernel, by decide +kernel⟩
theorem am_P_Mo_numberBehindBlanks : am_P (t_Mo_numberBehindBlanks, 1180, 119) := ⟨by decide +kernel, ⟨by decide +kernel, by decide +kernel⟩, by decide +kernel, by decide +kernel⟩
theorem am_P_Mo_readsNumber : am_P (t_Mo_readsNumber, 1184, 119) := ⟨by decide +kernel, ⟨by decide +kernel, by decide +kernel⟩, by decide +kernel, by decide +kernel⟩
theorem am_P_Mo_readsDigits : am_P (t_Mo_readsDigits, 1188, 119) := ⟨by decide +kernel, ⟨by decide +kernel, by decide +kernel⟩, by decide +kernel, by decide +kernel⟩
theorem am_P_Mo_isDigit : am_P (t_Mo_isDigit, 1192, 119) := ⟨by decide +kernel, ⟨by decide +kernel, by decide +kernel⟩, by decide +kernel, by decide +kernel⟩
theorem am_P_Mo_letter : am_P (t_Mo_letter, 1196, 119) := ⟨by decide +kernel, ⟨by decide +kernel, by decide +kernel⟩, by decide +kernel, by decide +kernel⟩
theorem am_P_Mo_readsWords : am_P (t_Mo_readsWords, 1200, 119) := ⟨by decide +kernel, ⟨by decide +kernel, by decide +kernel⟩, by decide +kernel, by decide +kernel⟩
theorem am_P_Mo_needsWord : am_P (t_Mo_needsWord, 1204, 119) := ⟨by decide +kernel, ⟨by decide +kernel, by decide +kernel⟩, by decide +kernel, by decide +kernel⟩
theorem am_P_Mo_plainBehindBlanks : am_P (t_Mo_plainBehindBlanks, 1208, 119) := ⟨by decide +kernel, ⟨by decide +kernel, by decide +kernel⟩, by decide +kernel, by decide +kernel⟩
theorem am_P_Mo_readsSaving : am_P (t_Mo_readsSaving, 1212, 119) := ⟨by decide +kernel, ⟨by decide +kernel, by decide +kernel⟩, by decide +kernel, by decide +kernel⟩
theorem am_P_Mo_adds : am_P (t_Mo_adds, 1216, 119) := ⟨by decide +kernel, ⟨by decide +kernel, by decide +kernel⟩, by decide +kernel, by decide +kernel⟩
theorem am_P_Mo_readInserts : am_P (t_Mo_readInserts, 1220, 119) := ⟨by decide +kernel, ⟨by decide +kernel, by decide +kernel⟩, by decide +kernel, by decide +kernel⟩
theorem am_P_Mo_operations : am_P (t_Mo_operations, 1224, 119) := ⟨by decide +kernel, ⟨by decide +kernel, by decide +kernel⟩, by decide +kernel, by decide +kernel⟩
theorem am_P_Mo_identities : am_P (t_Mo_identities, 1228, 119) := ⟨by decide +kernel, ⟨by decide +kernel, by decide +kernel⟩, by decide +kernel, by decide +kernel⟩
theorem am_P_Mo_identitiesAhead : am_P (t_Mo_identitiesAhead, 1232, 119) := ⟨by decide +kernel, ⟨by decide +kernel, by decide +kernel⟩, by decide +kernel, by decide +kernel⟩
theorem am_P_Mo_part : am_P (t_Mo_part, 1236, 119) := ⟨by decide +kernel, ⟨by decide +kernel, by decide +kernel⟩, by decide +kernel, by decide +kernel⟩
theorem am_P_Mo_keeps : am_P (t_Mo_keeps, 1240, 119) := ⟨by decide +kernel, ⟨by decide +kernel, by decide +kernel⟩, by decide +kernel, by decide +kernel⟩
theorem am_P_Mo_revoke : am_P (t_Mo_revoke, 1244, 119) := ⟨by decide +kernel, ⟨by decide +kernel, by decide +kernel⟩, by decide +kernel, by decide +kernel⟩
theorem am_P_Mo_isAmendment : am_P (t_Mo_isAmendment, 1248, 119) := ⟨by decide +kernel, ⟨by decide +kernel, by decide +kernel⟩, by decide +kernel, by decide +kernel⟩
theorem am_P_Mo_commence : am_P (t_Mo_commence, 1252, 119) := ⟨by decide +kernel, ⟨by decide +kernel, by decide +kernel⟩, by decide +kernel, by decide +kernel⟩
theorem am_P_Mo_withdraw : am_P (t_Mo_withdraw, 1256, 119) := ⟨by decide +kernel, ⟨by decide +kernel, by decide +kernel⟩, by decide +kernel, by decide +kernel⟩
theorem am_P_Mo_undo : am_P (t_Mo_undo, 1260, 119) := ⟨by decide +kernel, ⟨by decide +kernel, by decide +kernel⟩, by decide +kernel, by decide +kernel⟩
theorem am_P_Mo_amendment : am_P (t_Mo_amendment, 1264, 119) := ⟨by decide +kernel, ⟨by decide +kernel, by decide +kernel⟩, by decide +kernel, by decide +kernel⟩
theorem am_P_Mo_fullLaw : am_P (t_Mo_fullLaw, 1268, 119) := ⟨by decide +kernel, ⟨by decide +kernel, by decide +kernel⟩, by decide +kernel, by decide +kernel⟩
theorem am_P_Mo_laws : am_P (t_Mo_laws, 1272, 119) := ⟨by decide +kernel, ⟨by decide +kernel, by decide +kernel⟩, by decide +kernel, by decide +kernel⟩
theorem am_P_Mo_offAsRevoked : am_P (t_Mo_offAsRevoked, 1276, 119) := ⟨by decide +kernel, ⟨by decide +kernel, by decide +kernel⟩, by decide +kernel, by decide +kernel⟩
theorem am_P_Mo_consolidates : am_P (t_Mo_consolidates, 1280, 119) := ⟨by decide +kernel, ⟨by decide +kernel, by decide +kernel⟩, by decide +kernel, by decide +kernel⟩
theorem am_P_Mo_nextAmendment : am_P (t_Mo_nextAmendment, 1284, 119) := ⟨by decide +kernel, ⟨by decide +kernel, by decide +kernel⟩, by decide +kernel, by decide +kernel⟩
theorem am_P_Mo_firstOf : am_P (t_Mo_firstOf, 1288, 119) := ⟨by decide +kernel, ⟨by decide +kernel, by decide +kernel⟩, by decide +kernel, by decide +kernel⟩
theorem am_P_Mo_carriesOut : am_P (t_Mo_carriesOut, 1292, 119) := ⟨by decide +kernel, ⟨by decide +kernel, by decide +kernel⟩, by decide +kernel, by decide +kernel⟩
theorem am_P_Mo_withCode : am_P (t_Mo_withCode, 1296, 119) := ⟨by decide +kernel, ⟨by decide +kernel, by decide +kernel⟩, by decide +kernel, by decide +kernel⟩
theorem am_P_Mo_reasonOf : am_P (t_Mo_reasonOf, 1300, 119) := ⟨by decide +kernel, ⟨by decide +kernel, by decide +kernel⟩, by decide +kernel, by decide +kernel⟩
theorem am_P_Mo_hasWord : am_P (t_Mo_hasWord, 1304, 119) := ⟨by decide +kernel, ⟨by decide +kernel, by decide +kernel⟩, by decide +kernel, by decide +kernel⟩
theorem am_P_Mo_areReferred : am_P (t_Mo_areReferred, 1308, 119) := ⟨by decide +kernel, ⟨by decide +kernel, by decide +kernel⟩, by decide +kernel, by decide +kernel⟩
theorem am_P_Mo_setsText : am_P (t_Mo_setsText, 1312, 119) := ⟨by decide +kernel, ⟨by decide +kernel, by decide +kernel⟩, by decide +kernel, by decide +kernel⟩
theorem am_P_Mo_statusOf : am_P (t_Mo_statusOf, 1316, 119) := ⟨by decide +kernel, ⟨by decide +kernel, by decide +kernel⟩, by decide +kernel, by decide +kernel⟩
theorem am_P_Mo_amendmentOf : am_P (t_Mo_amendmentOf, 1320, 119) := ⟨by decide +kernel, ⟨by decide +kernel, by decide +kernel⟩, by decide +kernel, by decide +kernel⟩
theorem am_P_Mo_operation : am_P (t_Mo_operation, 1324, 119) := ⟨by decide +kernel, ⟨by decide +kernel, by decide +kernel⟩, by decide +kernel, by decide +kernel⟩
theorem am_P_Mo_isOperation : am_P (t_Mo_isOperation, 1328, 119) := ⟨by decide +kernel, ⟨by decide +kernel, by decide +kernel⟩, by decide +kernel, by decide +kernel⟩
theorem am_P_Mo_told : am_P (t_Mo_told, 1332, 119) := ⟨by decide +kernel, ⟨by decide +kernel, by decide +kernel⟩, by decide +kernel, by decide +kernel⟩
theorem am_P_Mo_word : am_P (t_Mo_word, 1336, 119) := ⟨by decide +kernel, ⟨by decide +kernel, by decide +kernel⟩, by decide +kernel, by decide +kernel⟩
theorem am_P_Mo_clauses : am_P (t_Mo_clauses, 1340, 119) := ⟨by decide +kernel, ⟨by decide +kernel, by decide +kernel⟩, by decide +kernel, by decide +kernel⟩
theorem am_P_Mo_isCase : am_P (t_Mo_isCase, 1343, 119) := ⟨by decide +kernel, ⟨by decide +kernel, by decide +kernel⟩, by decide +kernel, by decide +kernel⟩
theorem am_P_Mo_inForce : am_P (t_Mo_inForce, 1347, 119) := ⟨by decide +kernel, ⟨by decide +kernel, by decide +kernel⟩, by decide +kernel, by decide +kernel⟩
theorem am_P_Mo_clause : am_P (t_Mo_clause, 1351, 119) := ⟨by decide +kernel, ⟨by decide +kernel, by decide +kernel⟩, by decide +kernel, by decide +kernel⟩
theorem am_P_Mo_atIndex : am_P (t_Mo_atIndex, 1355, 119) := ⟨by decide +kernel, ⟨by decide +kernel, by decide +kernel⟩, by decide +kernel, by decide +kernel⟩
theorem am_P_Mo_indexOf : am_P (t_Mo_indexOf, 1359, 119) := ⟨by decide +kernel, ⟨by decide +kernel, by decide +kernel⟩, by decide +kernel, by decide +kernel⟩
theorem am_P_Mo_about : am_P (t_Mo_about, 1363, 119) := ⟨by decide +kernel, ⟨by decide +kernel, by decide +kernel⟩, by decide +kernel, by decide +kernel⟩
theorem am_P_Mo_textWord : am_P (t_Mo_textWord, 1367, 119) := ⟨by decide +kernel, ⟨by decide +kernel, by decide +kernel⟩, by decide +kernel, by decide +kernel⟩
theorem am_P_Mo_toldWord : am_P (t_Mo_toldWord, 1371, 119) := ⟨by decide +kernel, ⟨by decide +kernel, by decide +kernel⟩, by decide +kernel, by decide +kernel⟩
theorem am_P_Mo_find : am_P (t_Mo_find, 1375, 119) := ⟨by decide +kernel, ⟨by decide +kernel, by decide +kernel⟩, by decide +kernel, by decide +kernel⟩
theorem am_P_Mo_isCode : am_P (t_Mo_isCode, 1378, 119) := ⟨by decide +kernel, ⟨by decide +kernel, by decide +kernel⟩, by decide +kernel, by decide +kernel⟩
theorem am_P_Mo_print : am_P (t_Mo_print, 1383, 119) := ⟨by decide +kernel, ⟨by decide +kernel, by decide +kernel⟩, by decide +kernel, by decide +kernel⟩
theorem am_P_Mo_printsNumber : am_P (t_Mo_printsNumber, 1387, 119) := ⟨by decide +kernel, ⟨by decide +kernel, by decide +kernel⟩, by decide +kernel, by decide +kernel⟩
theorem am_P_Mo_printsInteger : am_P (t_Mo_printsInteger, 1391, 119) := ⟨by decide +kernel, ⟨by decide +kernel, by decide +kernel⟩, by decide +kernel, by decide +kernel⟩
theorem am_P_Mo_prints : am_P (t_Mo_prints, 1395, 119) := ⟨by decide +kernel, ⟨by decide +kernel, by decide +kernel⟩, by decide +kernel, by decide +kernel⟩
theorem am_P_Mo_printed : am_P (t_Mo_printed, 1399, 119) := ⟨by decide +kernel, ⟨by decide +kernel, by decide +kernel⟩, by decide +kernel, by decide +kernel⟩
theorem am_P_Mo_history : am_P (t_Mo_history, 1403, 119) := ⟨by decide +kernel, ⟨by decide +kernel, by decide +kernel⟩, by decide +kernel, by decide +kernel⟩
theorem am_P_Mo_isIdentity : am_P (t_Mo_isIdentity, 1407, 119) := ⟨by decide +kernel, ⟨by decide +kernel, by decide +kernel⟩, by decide +kernel, by decide +kernel⟩
theorem am_P_Mo_difference : am_P (t_Mo_difference, 1411, 119) := ⟨by decide +kernel, ⟨by decide +kernel, by decide +kernel⟩, by decide +kernel, by decide +kernel⟩
theorem am_P_Mo_setsAside : am_P (t_Mo_setsAside, 1415, 119) := ⟨by decide +kernel, ⟨by decide +kernel, by decide +kernel⟩, by decide +kernel, by decide +kernel⟩
theorem am_P_Mo_isSameText : am_P (t_Mo_isSameText, 1419, 119) := ⟨by decide +kernel, ⟨by decide +kernel, by decide +kernel⟩, by decide +kernel, by decide +kernel⟩
theorem am_P_Mo_containing : am_P (t_Mo_containing, 1423, 119) := ⟨by decide +kernel, ⟨by decide +kernel, by decide +kernel⟩, by decide +kernel, by decide +kernel⟩
theorem am_P_Mo_withWord : am_P (t_Mo_withWord, 1427, 119) := ⟨by decide +kernel, ⟨by decide +kernel, by decide +kernel⟩, by decide +kernel, by decide +kernel⟩
theorem am_P_Mo_references : am_P (t_Mo_references, 1431, 119) := ⟨by decide +kernel, ⟨by decide +kernel, by decide +kernel⟩, by decide +kernel, by decide +kernel⟩
theorem am_P_Mo_reach : am_P (t_Mo_reach, 1435, 119) := ⟨by decide +kernel, ⟨by decide +kernel, by decide +kernel⟩, by decide +kernel, by decide +kernel⟩
theorem am_P_Mo_spreads : am_P (t_Mo_spreads, 1439, 119) := ⟨by decide +kernel, ⟨by decide +kernel, by decide +kernel⟩, by decide +kernel, by decide +kernel⟩
theorem am_P_Mo_refers : am_P (t_Mo_refers, 1443, 119) := ⟨by decide +kernel, ⟨by decide +kernel, by decide +kernel⟩, by decide +kernel, by decide +kernel⟩
theorem am_P_Mo_tally : am_P (t_Mo_tally, 1447, 119) := ⟨by decide +kernel, ⟨by decide +kernel, by decide +kernel⟩, by decide +kernel, by decide +kernel⟩
theorem am_P_Mo_areInConflict : am_P (t_Mo_areInConflict, 1451, 119) := ⟨by decide +kernel, ⟨by decide +kernel, by decide +kernel⟩, by decide +kernel, by decide +kernel⟩
theorem am_P_Mo_conflict : am_P (t_Mo_conflict, 1455, 119) := ⟨by decide +kernel, ⟨by decide +kernel, by decide +kernel⟩, by decide +kernel, by decide +kernel⟩
theorem am_P_Mo_ofConflict : am_P (t_Mo_ofConflict, 1459, 119) := ⟨by decide +kernel, ⟨by decide +kernel, by decide +kernel⟩, by decide +kernel, by decide +kernel⟩
theorem am_P_Mo_effect : am_P (t_Mo_effect, 1463, 119) := ⟨by decide +kernel, ⟨by decide +kernel, by decide +kernel⟩, by decide +kernel, by decide +kernel⟩
theorem am_P_Mo_fewestRevocations : am_P (t_Mo_fewestRevocations, 1467, 119) := ⟨by decide +kernel, ⟨by decide +kernel, by decide +kernel⟩, by decide +kernel, by decide +kernel⟩
theorem am_P_Mo_isGone : am_P (t_Mo_isGone, 1471, 119) := ⟨by decide +kernel, ⟨by decide +kernel, by decide +kernel⟩, by decide +kernel, by decide +kernel⟩
theorem am_P_Mo_between : am_P (t_Mo_between, 1475, 119) := ⟨by decide +kernel, ⟨by decide +kernel, by decide +kernel⟩, by decide +kernel, by decide +kernel⟩
theorem am_P_Mo_lettersIn : am_P (t_Mo_lettersIn, 1478, 119) := ⟨by decide +kernel, ⟨by decide +kernel, by decide +kernel⟩, by decide +kernel, by decide +kernel⟩
theorem am_P_Mo_tidy : am_P (t_Mo_tidy, 1482, 119) := ⟨by decide +kernel, ⟨by decide +kernel, by decide +kernel⟩, by decide +kernel, by decide +kernel⟩
theorem am_P_Mo_renumbers : am_P (t_Mo_renumbers, 1486, 119) := ⟨by decide +kernel, ⟨by decide +kernel, by decide +kernel⟩, by decide +kernel, by decide +kernel⟩
theorem am_P_Mo_save : am_P (t_Mo_save, 1490, 119) := ⟨by decide +kernel, ⟨by decide +kernel, by decide +kernel⟩, by decide +kernel, by decide +kernel⟩
theorem am_P_Mo_restore : am_P (t_Mo_restore, 1494, 119) := ⟨by decide +kernel, ⟨by decide +kernel, by decide +kernel⟩, by decide +kernel, by decide +kernel⟩
theorem am_P_Mo_count : am_P (t_Mo_count, 1498, 119) := ⟨by decide +kernel, ⟨by decide +kernel, by decide +kernel⟩, by decide +kernel, by decide +kernel⟩
theorem am_P_Mo_revoked : am_P (t_Mo_revoked, 1502, 119) := ⟨by decide +kernel, ⟨by decide +kernel, by decide +kernel⟩, by decide +kernel, by decide +kernel⟩
theorem am_P_Mo_digest : am_P (t_Mo_digest, 1507, 119) := ⟨by decide +kernel, ⟨by decide +kernel, by decide +kernel⟩, by decide +kernel, by decide +kernel⟩
theorem am_P_Mo_mixes : am_P (t_Mo_mixes, 1513, 119) := ⟨by decide +kernel, ⟨by decide +kernel, by decide +kernel⟩, by decide +kernel, by decide +kernel⟩
theorem am_P_Mo_mixesAmendment : am_P (t_Mo_mixesAmendment, 1518, 119) := ⟨by decide +kernel, ⟨by decide +kernel, by decide +kernel⟩, by decide +kernel, by decide +kernel⟩
theorem am_P_Mo_mixesLaw : am_P (t_Mo_mixesLaw, 1523, 119) := ⟨by decide +kernel, ⟨by decide +kernel, by decide +kernel⟩, by decide +kernel, by decide +kernel⟩
theorem am_Ps0 : ∀ q ∈ am_ts0,  am_P q := (List.forall_mem_cons.mpr ⟨am_P_SB_type, (List.forall_mem_cons.mpr ⟨am_P_SB_within, (List.forall_mem_cons.mpr ⟨am_P_Pag_kept, (List.forall_mem_cons.mpr ⟨am_P_Pag_append, (List.forall_mem_cons.mpr ⟨am_P_SB_clear, (List.forall_mem_cons.mpr ⟨am_P_Pag_makeEmpty, (List.forall_mem_cons.mpr ⟨am_P_SB_enact, (List.forall_mem_cons.mpr ⟨am_P_Rea_readAmendment, (List.forall_mem_cons.mpr ⟨am_P_Dra_makeEmpty, (List.forall_mem_cons.mpr ⟨am_P_Rea_readOperation, (List.forall_mem_cons.mpr ⟨am_P_Rea_skipBlanks, (List.forall_mem_cons.mpr ⟨am_P_Pag_byteAt, (List.forall_mem_cons.mpr ⟨am_P_Dra_size, (List.forall_mem_cons.mpr ⟨am_P_Rea_readKind, (List.forall_mem_cons.mpr ⟨am_P_Rea_passes, (List.forall_mem_cons.mpr ⟨am_P_Str_length, (List.forall_mem_cons.mpr ⟨am_P_Str_coder, (List.forall_mem_cons.mpr ⟨am_P_Str_charAt, (List.forall_mem_cons.mpr ⟨am_P_Str_isLatin1, (List.forall_mem_cons.mpr ⟨am_P_SL1_charAt, (List.forall_mem_cons.mpr ⟨am_P_Str_checkIndex, (List.forall_mem_cons.mpr ⟨am_P_Pre_checkIndex, (List.forall_mem_cons.mpr ⟨am_P_Rea_isBetween, (List.forall_mem_cons.mpr ⟨am_P_Rea_fail, (List.forall_mem_cons.mpr ⟨am_P_Rea_readNumber, (List.forall_mem_cons.mpr ⟨am_P_Rea_readDigits, (List.forall_mem_cons.mpr ⟨am_P_Dra_begin, (List.forall_mem_cons.mpr ⟨am_P_Dra_put, (List.forall_mem_cons.mpr ⟨am_P_Row_set, (List.forall_mem_cons.mpr ⟨am_P_Rea_readWords, (List.forall_mem_cons.mpr ⟨am_P_Rea_isAtWord, (List.forall_mem_cons.mpr ⟨am_P_Dra_addWord, (fun _ h => absurd h List.not_mem_nil)⟩)⟩)⟩)⟩)⟩)⟩)⟩)⟩)⟩)⟩)⟩)⟩)⟩)⟩)⟩)⟩)⟩)⟩)⟩)⟩)⟩)⟩)⟩)⟩)⟩)⟩)⟩)⟩)⟩)⟩)⟩)⟩)
theorem am_Ps1 : ∀ q ∈ am_ts1,  am_P q := (List.forall_mem_cons.mpr ⟨am_P_Row_get, (List.forall_mem_cons.mpr ⟨am_P_Rea_expect, (List.forall_mem_cons.mpr ⟨am_P_Rea_readPlain, (List.forall_mem_cons.mpr ⟨am_P_Rea_readSaving, (List.forall_mem_cons.mpr ⟨am_P_Rea_readSemicolon, (List.forall_mem_cons.mpr ⟨am_P_SB_addDraft, (List.forall_mem_cons.mpr ⟨am_P_Amd_hasRoomFor, (List.forall_mem_cons.mpr ⟨am_P_Amd_size, (List.forall_mem_cons.mpr ⟨am_P_Amd_operations, (List.forall_mem_cons.mpr ⟨am_P_Amd_identities, (List.forall_mem_cons.mpr ⟨am_P_Dra_inserts, (List.forall_mem_cons.mpr ⟨am_P_Arc_push, (List.forall_mem_cons.mpr ⟨am_P_Arc_putAway, (List.forall_mem_cons.mpr ⟨am_P_Row_take, (List.forall_mem_cons.mpr ⟨am_P_Amd_add, (List.forall_mem_cons.mpr ⟨am_P_Amd_cell, (List.forall_mem_cons.mpr ⟨am_P_Amd_setDay, (List.forall_mem_cons.mpr ⟨am_P_SB_revoke, (List.forall_mem_cons.mpr ⟨am_P_Amd_has, (List.forall_mem_cons.mpr ⟨am_P_Amd_isRevoked, (List.forall_mem_cons.mpr ⟨am_P_Amd_revoked, (List.forall_mem_cons.mpr ⟨am_P_Amd_setRevoked, (List.forall_mem_cons.mpr ⟨am_P_SB_commence, (List.forall_mem_cons.mpr ⟨am_P_Amd_day, (List.forall_mem_cons.mpr ⟨am_P_SB_withdraw, (List.forall_mem_cons.mpr ⟨am_P_Amd_removeLast, (List.forall_mem_cons.mpr ⟨am_P_Amd_start, (List.forall_mem_cons.mpr ⟨am_P_SB_undo, (List.forall_mem_cons.mpr ⟨am_P_Arc_states, (List.forall_mem_cons.mpr ⟨am_P_Arc_pop, (List.forall_mem_cons.mpr ⟨am_P_Arc_bring, (List.forall_mem_cons.mpr ⟨am_P_SB_amendment, (fun _ h => absurd h List.not_mem_nil)⟩)⟩)⟩)⟩)⟩)⟩)⟩)⟩)⟩)⟩)⟩)⟩)⟩)⟩)⟩)⟩)⟩)⟩)⟩)⟩)⟩)⟩)⟩)⟩)⟩)⟩)⟩)⟩)⟩)⟩)⟩)⟩)
theorem am_Ps2 : ∀ q ∈ am_ts2,  am_P q := (List.forall_mem_cons.mpr ⟨am_P_SB_consolidateFully, (List.forall_mem_cons.mpr ⟨am_P_Law_consolidate, (List.forall_mem_cons.mpr ⟨am_P_Row_fill, (List.forall_mem_cons.mpr ⟨am_P_Arr_fill, (List.forall_mem_cons.mpr ⟨am_P_Law_nextKey, (List.forall_mem_cons.mpr ⟨am_P_Law_carryOut, (List.forall_mem_cons.mpr ⟨am_P_Law_holder, (List.forall_mem_cons.mpr ⟨am_P_Law_resolves, (List.forall_mem_cons.mpr ⟨am_P_Law_reason, (List.forall_mem_cons.mpr ⟨am_P_Law_contains, (List.forall_mem_cons.mpr ⟨am_P_Law_perform, (List.forall_mem_cons.mpr ⟨am_P_Law_setText, (List.forall_mem_cons.mpr ⟨am_P_Law_change, (List.forall_mem_cons.mpr ⟨am_P_Law_arrange, (List.forall_mem_cons.mpr ⟨am_P_SB_amendmentPart, (List.forall_mem_cons.mpr ⟨am_P_Amd_operationsOf, (List.forall_mem_cons.mpr ⟨am_P_Law_effective, (List.forall_mem_cons.mpr ⟨am_P_Law_status, (List.forall_mem_cons.mpr ⟨am_P_SB_operation, (List.forall_mem_cons.mpr ⟨am_P_Amd_hasOperation, (List.forall_mem_cons.mpr ⟨am_P_SB_operationPart, (List.forall_mem_cons.mpr ⟨am_P_Law_affected, (List.forall_mem_cons.mpr ⟨am_P_SB_word, (List.forall_mem_cons.mpr ⟨am_P_SB_clauses, (List.forall_mem_cons.mpr ⟨am_P_SB_isLaw, (List.forall_mem_cons.mpr ⟨am_P_SB_consolidate, (List.forall_mem_cons.mpr ⟨am_P_Law_size, (List.forall_mem_cons.mpr ⟨am_P_SB_clause, (List.forall_mem_cons.mpr ⟨am_P_Law_at, (List.forall_mem_cons.mpr ⟨am_P_SB_clausePart, (List.forall_mem_cons.mpr ⟨am_P_Law_code, (List.forall_mem_cons.mpr ⟨am_P_Law_length, (fun _ h => absurd h List.not_mem_nil)⟩)⟩)⟩)⟩)⟩)⟩)⟩)⟩)⟩)⟩)⟩)⟩)⟩)⟩)⟩)⟩)⟩)⟩)⟩)⟩)⟩)⟩)⟩)⟩)⟩)⟩)⟩)⟩)⟩)⟩)⟩)⟩)
theorem am_Ps3 : ∀ q ∈ am_ts3,  am_P q := (List.forall_mem_cons.mpr ⟨am_P_Law_lastDay, (List.forall_mem_cons.mpr ⟨am_P_SB_textWord, (List.forall_mem_cons.mpr ⟨am_P_SB_presentWord, (List.forall_mem_cons.mpr ⟨am_P_Law_said, (List.forall_mem_cons.mpr ⟨am_P_SB_find, (List.forall_mem_cons.mpr ⟨am_P_SB_isCode, (List.forall_mem_cons.mpr ⟨am_P_Law_indexOf, (List.forall_mem_cons.mpr ⟨am_P_SB_print, (List.forall_mem_cons.mpr ⟨am_P_SB_printClause, (List.forall_mem_cons.mpr ⟨am_P_Pag_appendNumber, (List.forall_mem_cons.mpr ⟨am_P_Pag_appendInteger, (List.forall_mem_cons.mpr ⟨am_P_Pag_written, (List.forall_mem_cons.mpr ⟨am_P_SB_printed, (List.forall_mem_cons.mpr ⟨am_P_SB_history, (List.forall_mem_cons.mpr ⟨am_P_SB_isIdentity, (List.forall_mem_cons.mpr ⟨am_P_Law_effectOn, (List.forall_mem_cons.mpr ⟨am_P_Amd_amendmentOf, (List.forall_mem_cons.mpr ⟨am_P_SB_difference, (List.forall_mem_cons.mpr ⟨am_P_SB_differs, (List.forall_mem_cons.mpr ⟨am_P_Law_saysTheSame, (List.forall_mem_cons.mpr ⟨am_P_SB_containing, (List.forall_mem_cons.mpr ⟨am_P_Law_clausesWith, (List.forall_mem_cons.mpr ⟨am_P_SB_references, (List.forall_mem_cons.mpr ⟨am_P_SB_referencesFrom, (List.forall_mem_cons.mpr ⟨am_P_Law_target, (List.forall_mem_cons.mpr ⟨am_P_SB_reach, (List.forall_mem_cons.mpr ⟨am_P_Wal_follow, (List.forall_mem_cons.mpr ⟨am_P_Wal_meet, (List.forall_mem_cons.mpr ⟨am_P_Wal_reached, (List.forall_mem_cons.mpr ⟨am_P_Wal_greatestDistance, (List.forall_mem_cons.mpr ⟨am_P_Wal_comesBack, (List.forall_mem_cons.mpr ⟨am_P_SB_tally, (fun _ h => absurd h List.not_mem_nil)⟩)⟩)⟩)⟩)⟩)⟩)⟩)⟩)⟩)⟩)⟩)⟩)⟩)⟩)⟩)⟩)⟩)⟩)⟩)⟩)⟩)⟩)⟩)⟩)⟩)⟩)⟩)⟩)⟩)⟩)⟩)⟩)
theorem am_Ps4 : ∀ q ∈ am_ts4,  am_P q := (List.forall_mem_cons.mpr ⟨am_P_SB_tallyPart, (List.forall_mem_cons.mpr ⟨am_P_SB_conflicts, (List.forall_mem_cons.mpr ⟨am_P_SB_clash, (List.forall_mem_cons.mpr ⟨am_P_SB_conflict, (List.forall_mem_cons.mpr ⟨am_P_SB_conflictPart, (List.forall_mem_cons.mpr ⟨am_P_SB_effect, (List.forall_mem_cons.mpr ⟨am_P_SB_fewestRevocations, (List.forall_mem_cons.mpr ⟨am_P_SB_vanishes, (List.forall_mem_cons.mpr ⟨am_P_SB_isCarriedOut, (List.forall_mem_cons.mpr ⟨am_P_SB_between, (List.forall_mem_cons.mpr ⟨am_P_SB_numberBetween, (List.forall_mem_cons.mpr ⟨am_P_SB_tidy, (List.forall_mem_cons.mpr ⟨am_P_SB_draftTidying, (List.forall_mem_cons.mpr ⟨am_P_SB_save, (List.forall_mem_cons.mpr ⟨am_P_Arc_keepSnapshot, (List.forall_mem_cons.mpr ⟨am_P_SB_restore, (List.forall_mem_cons.mpr ⟨am_P_Arc_hasSnapshot, (List.forall_mem_cons.mpr ⟨am_P_Arc_bringSnapshot, (List.forall_mem_cons.mpr ⟨am_P_SB_count, (List.forall_mem_cons.mpr ⟨am_P_SB_countPart, (List.forall_mem_cons.mpr ⟨am_P_Int_bitCount, (List.forall_mem_cons.mpr ⟨am_P_Arc_snapshots, (List.forall_mem_cons.mpr ⟨am_P_SB_digest, (List.forall_mem_cons.mpr ⟨am_P_SB_mixed, (List.forall_mem_cons.mpr ⟨am_P_SB_mixedAmendment, (List.forall_mem_cons.mpr ⟨am_P_SB_mixedClause, (List.forall_mem_cons.mpr ⟨am_P_SB_mixedPage, (List.forall_mem_cons.mpr ⟨am_P_Mo_type, (List.forall_mem_cons.mpr ⟨am_P_Mo_in, (List.forall_mem_cons.mpr ⟨am_P_Mo_clear, (List.forall_mem_cons.mpr ⟨am_P_Mo_enact, (List.forall_mem_cons.mpr ⟨am_P_Mo_isDay, (fun _ h => absurd h List.not_mem_nil)⟩)⟩)⟩)⟩)⟩)⟩)⟩)⟩)⟩)⟩)⟩)⟩)⟩)⟩)⟩)⟩)⟩)⟩)⟩)⟩)⟩)⟩)⟩)⟩)⟩)⟩)⟩)⟩)⟩)⟩)⟩)⟩)
theorem am_Ps5 : ∀ q ∈ am_ts5,  am_P q := (List.forall_mem_cons.mpr ⟨am_P_Mo_readsAll, (List.forall_mem_cons.mpr ⟨am_P_Mo_skips, (List.forall_mem_cons.mpr ⟨am_P_Mo_byteAt, (List.forall_mem_cons.mpr ⟨am_P_Mo_readsOperation, (List.forall_mem_cons.mpr ⟨am_P_Mo_fails, (List.forall_mem_cons.mpr ⟨am_P_Mo_puts, (List.forall_mem_cons.mpr ⟨am_P_Mo_readsLetters, (List.forall_mem_cons.mpr ⟨am_P_Mo_isSmall, (List.forall_mem_cons.mpr ⟨am_P_Mo_kindOf, (List.forall_mem_cons.mpr ⟨am_P_Mo_lettersOf, (List.forall_mem_cons.mpr ⟨am_P_Mo_numberBehindBlanks, (List.forall_mem_cons.mpr ⟨am_P_Mo_readsNumber, (List.forall_mem_cons.mpr ⟨am_P_Mo_readsDigits, (List.forall_mem_cons.mpr ⟨am_P_Mo_isDigit, (List.forall_mem_cons.mpr ⟨am_P_Mo_letter, (List.forall_mem_cons.mpr ⟨am_P_Mo_readsWords, (List.forall_mem_cons.mpr ⟨am_P_Mo_needsWord, (List.forall_mem_cons.mpr ⟨am_P_Mo_plainBehindBlanks, (List.forall_mem_cons.mpr ⟨am_P_Mo_readsSaving, (List.forall_mem_cons.mpr ⟨am_P_Mo_adds, (List.forall_mem_cons.mpr ⟨am_P_Mo_readInserts, (List.forall_mem_cons.mpr ⟨am_P_Mo_operations, (List.forall_mem_cons.mpr ⟨am_P_Mo_identities, (List.forall_mem_cons.mpr ⟨am_P_Mo_identitiesAhead, (List.forall_mem_cons.mpr ⟨am_P_Mo_part, (List.forall_mem_cons.mpr ⟨am_P_Mo_keeps, (List.forall_mem_cons.mpr ⟨am_P_Mo_revoke, (List.forall_mem_cons.mpr ⟨am_P_Mo_isAmendment, (List.forall_mem_cons.mpr ⟨am_P_Mo_commence, (List.forall_mem_cons.mpr ⟨am_P_Mo_withdraw, (List.forall_mem_cons.mpr ⟨am_P_Mo_undo, (List.forall_mem_cons.mpr ⟨am_P_Mo_amendment, (fun _ h => absurd h List.not_mem_nil)⟩)⟩)⟩)⟩)⟩)⟩)⟩)⟩)⟩)⟩)⟩)⟩)⟩)⟩)⟩)⟩)⟩)⟩)⟩)⟩)⟩)⟩)⟩)⟩)⟩)⟩)⟩)⟩)⟩)⟩)⟩)⟩)
theorem am_Ps6 : ∀ q ∈ am_ts6,  am_P q := (List.forall_mem_cons.mpr ⟨am_P_Mo_fullLaw, (List.forall_mem_cons.mpr ⟨am_P_Mo_laws, (List.forall_mem_cons.mpr ⟨am_P_Mo_offAsRevoked, (List.forall_mem_cons.mpr ⟨am_P_Mo_consolidates, (List.forall_mem_cons.mpr ⟨am_P_Mo_nextAmendment, (List.forall_mem_cons.mpr ⟨am_P_Mo_firstOf, (List.forall_mem_cons.mpr ⟨am_P_Mo_carriesOut, (List.forall_mem_cons.mpr ⟨am_P_Mo_withCode, (List.forall_mem_cons.mpr ⟨am_P_Mo_reasonOf, (List.forall_mem_cons.mpr ⟨am_P_Mo_hasWord, (List.forall_mem_cons.mpr ⟨am_P_Mo_areReferred, (List.forall_mem_cons.mpr ⟨am_P_Mo_setsText, (List.forall_mem_cons.mpr ⟨am_P_Mo_statusOf, (List.forall_mem_cons.mpr ⟨am_P_Mo_amendmentOf, (List.forall_mem_cons.mpr ⟨am_P_Mo_operation, (List.forall_mem_cons.mpr ⟨am_P_Mo_isOperation, (List.forall_mem_cons.mpr ⟨am_P_Mo_told, (List.forall_mem_cons.mpr ⟨am_P_Mo_word, (List.forall_mem_cons.mpr ⟨am_P_Mo_clauses, (List.forall_mem_cons.mpr ⟨am_P_Mo_isCase, (List.forall_mem_cons.mpr ⟨am_P_Mo_inForce, (List.forall_mem_cons.mpr ⟨am_P_Mo_clause, (List.forall_mem_cons.mpr ⟨am_P_Mo_atIndex, (List.forall_mem_cons.mpr ⟨am_P_Mo_indexOf, (List.forall_mem_cons.mpr ⟨am_P_Mo_about, (List.forall_mem_cons.mpr ⟨am_P_Mo_textWord, (List.forall_mem_cons.mpr ⟨am_P_Mo_toldWord, (List.forall_mem_cons.mpr ⟨am_P_Mo_find, (List.forall_mem_cons.mpr ⟨am_P_Mo_isCode, (List.forall_mem_cons.mpr ⟨am_P_Mo_print, (List.forall_mem_cons.mpr ⟨am_P_Mo_printsNumber, (List.forall_mem_cons.mpr ⟨am_P_Mo_printsInteger, (fun _ h => absurd h List.not_mem_nil)⟩)⟩)⟩)⟩)⟩)⟩)⟩)⟩)⟩)⟩)⟩)⟩)⟩)⟩)⟩)⟩)⟩)⟩)⟩)⟩)⟩)⟩)⟩)⟩)⟩)⟩)⟩)⟩)⟩)⟩)⟩)⟩)
theorem am_Ps7 : ∀ q ∈ am_ts7,  am_P q := (List.forall_mem_cons.mpr ⟨am_P_Mo_prints, (List.forall_mem_cons.mpr ⟨am_P_Mo_printed, (List.forall_mem_cons.mpr ⟨am_P_Mo_history, (List.forall_mem_cons.mpr ⟨am_P_Mo_isIdentity, (List.forall_mem_cons.mpr ⟨am_P_Mo_difference, (List.forall_mem_cons.mpr ⟨am_P_Mo_setsAside, (List.forall_mem_cons.mpr ⟨am_P_Mo_isSameText, (List.forall_mem_cons.mpr ⟨am_P_Mo_containing, (List.forall_mem_cons.mpr ⟨am_P_Mo_withWord, (List.forall_mem_cons.mpr ⟨am_P_Mo_references, (List.forall_mem_cons.mpr ⟨am_P_Mo_reach, (List.forall_mem_cons.mpr ⟨am_P_Mo_spreads, (List.forall_mem_cons.mpr ⟨am_P_Mo_refers, (List.forall_mem_cons.mpr ⟨am_P_Mo_tally, (List.forall_mem_cons.mpr ⟨am_P_Mo_areInConflict, (List.forall_mem_cons.mpr ⟨am_P_Mo_conflict, (List.forall_mem_cons.mpr ⟨am_P_Mo_ofConflict, (List.forall_mem_cons.mpr ⟨am_P_Mo_effect, (List.forall_mem_cons.mpr ⟨am_P_Mo_fewestRevocations, (List.forall_mem_cons.mpr ⟨am_P_Mo_isGone, (List.forall_mem_cons.mpr ⟨am_P_Mo_between, (List.forall_mem_cons.mpr ⟨am_P_Mo_lettersIn, (List.forall_mem_cons.mpr ⟨am_P_Mo_tidy, (List.forall_mem_cons.mpr ⟨am_P_Mo_renumbers, (List.forall_mem_cons.mpr ⟨am_P_Mo_save, (List.forall_mem_cons.mpr ⟨am_P_Mo_restore, (List.forall_mem_cons.mpr ⟨am_P_Mo_count, (List.forall_mem_cons.mpr ⟨am_P_Mo_revoked, (List.forall_mem_cons.mpr ⟨am_P_Mo_digest, (List.forall_mem_cons.mpr ⟨am_P_Mo_mixes, (List.forall_mem_cons.mpr ⟨am_P_Mo_mixesAmendment, (List.forall_mem_cons.mpr ⟨am_P_Mo_mixesLaw, (fun _ h => absurd h List.not_mem_nil)⟩)⟩)⟩)⟩)⟩)⟩)⟩)⟩)⟩)⟩)⟩)⟩)⟩)⟩)⟩)⟩)⟩)⟩)⟩)⟩)⟩)⟩)⟩)⟩)⟩)⟩)⟩)⟩)⟩)⟩)⟩)⟩)
theorem am_Ps8 : ∀ q ∈ am_ts8, q.1 ≠ t_LAW_law → am_P q := (List.forall_mem_cons.mpr ⟨(fun h => absurd rfl h), (fun _ h => absurd h List.not_mem_nil)⟩)
theorem am_Pt : ∀ q ∈ am_ts, q.1 ≠ t_LAW_law → am_P q := by
  intro q hq hn
  simp only [am_ts, List.mem_append] at hq
  rcases hq with (((((((hq | hq) | hq) | hq) | hq) | hq) | hq) | hq) | hq
  · exact am_Ps0 q hq
  · exact am_Ps1 q hq
  · exact am_Ps2 q hq
  · exact am_Ps3 q hq
  · exact am_Ps4 q hq
  · exact am_Ps5 q hq
  · exact am_Ps6 q hq
  · exact am_Ps7 q hq
  · exact am_Ps8 q hq hn
/-- a link to a method: its words -/
def am_cok (k : Nat) (e : Nat × Nat × Nat × Nat × Nat × Nat) : Bool := match am_ts[e.2.1]? with
  | some q => decide (lw_tbl[e.2.2.2.1]? = some (.methodLink (am_cn k) e.1 (am_nm q.1))) && decide (am_nm q.1 ≠ am_nm t_LAW_law) &&
    (bif Nat.beq e.2.2.1 0 then decide (lw_tbl[e.2.2.2.2.1]? = some (.instanceMethod (am_nm q.1))) && decide (lw_tbl[e.2.2.2.2.2]? = some (.selects (am_nm q.1).cls (am_nm q.1) (am_nm q.1))) && decide ((parseMethodDescriptor (am_nm q.1).desc).map (fun d => d.parameters.length + 1) = some (am_ar q.1))
     else decide (lw_tbl[e.2.2.2.2.1]? = some (.static (am_nm q.1))) && decide ((parseMethodDescriptor (am_nm q.1).desc).map (fun d => d.parameters.length) = some (am_ar q.1)))
  | none => false
def am_fok (k : Nat) (e : Nat × Nat × Nat × Nat × Nat) : Bool := match am_cl[e.2.1]? with
  | some r => Nat.blt e.2.2.1 r.2.2 && decide (lw_tbl[e.2.2.2.2]? = some (bif Nat.beq e.2.2.2.1 0 then .fieldLink (am_cn k) e.1 (r.2.1 e.2.2.1).1 (r.2.1 e.2.2.1).2.1 (r.2.1 e.2.2.1).2.2.1 else .fieldLinkNest (am_cn k) e.1 (r.2.1 e.2.2.1).1 (r.2.1 e.2.2.1).2.1 (r.2.1 e.2.2.1).2.2.1 "StatuteBook"))
  | none => false
def am_kok (k : Nat) (e : Nat × Int32 × Nat) : Bool := decide (lw_tbl[e.2.2]? = some (.constant (am_cn k) e.1 e.2.1))
def am_lok (k : Nat) (e : Nat × Int64 × Nat) : Bool := decide (lw_tbl[e.2.2]? = some (.constantLong (am_cn k) e.1 e.2.1))
theorem am_mc0 : (am_m0).all (am_cok 0) = true := by decide +kernel
theorem am_fc0 : (am_f0).all (am_fok 0) = true := by decide +kernel
theorem am_kc0 : (am_ki0).all (am_kok 0) = true := by decide +kernel
theorem am_lc0 : (am_kl0).all (am_lok 0) = true := by decide +kernel
theorem am_mc1 : (am_m1).all (am_cok 1) = true := by decide +kernel
theorem am_fc1 : (am_f1).all (am_fok 1) = true := by decide +kernel
theorem am_kc1 : (am_ki1).all (am_kok 1) = true := by decide +kernel
theorem am_lc1 : (am_kl1).all (am_lok 1) = true := by decide +kernel
theorem am_mc2 : (am_m2).all (am_cok 2) = true := by decide +kernel
theorem am_fc2 : (am_f2).all (am_fok 2) = true := by decide +kernel
theorem am_kc2 : (am_ki2).all (am_kok 2) = true := by decide +kernel
theorem am_lc2 : (am_kl2).all (am_lok 2) = true := by decide +kernel
theorem am_mc3 : (am_m3).all (am_cok 3) = true := by decide +kernel
theorem am_fc3 : (am_f3).all (am_fok 3) = true := by decide +kernel
theorem am_kc3 : (am_ki3).all (am_kok 3) = true := by decide +kernel
theorem am_lc3 : (am_kl3).all (am_lok 3) = true := by decide +kernel
theorem am_mc4 : (am_m4).all (am_cok 4) = true := by decide +kernel
theorem am_fc4 : (am_f4).all (am_fok 4) = true := by decide +kernel
theorem am_kc4 : (am_ki4).all (am_kok 4) = true := by decide +kernel
theorem am_lc4 : (am_kl4).all (am_lok 4) = true := by decide +kernel
theorem am_mc5 : (am_m5).all (am_cok 5) = true := by decide +kernel
theorem am_fc5 : (am_f5).all (am_fok 5) = true := by decide +kernel
theorem am_kc5 : (am_ki5).all (am_kok 5) = true := by decide +kernel
theorem am_lc5 : (am_kl5).all (am_lok 5) = true := by decide +kernel
theorem am_mc6 : (am_m6).all (am_cok 6) = true := by decide +kernel
theorem am_fc6 : (am_f6).all (am_fok 6) = true := by decide +kernel
theorem am_kc6 : (am_ki6).all (am_kok 6) = true := by decide +kernel
theorem am_lc6 : (am_kl6).all (am_lok 6) = true := by decide +kernel
theorem am_mc7 : (am_m7).all (am_cok 7) = true := by decide +kernel
theorem am_fc7 : (am_f7).all (am_fok 7) = true := by decide +kernel
theorem am_kc7 : (am_ki7).all (am_kok 7) = true := by decide +kernel
theorem am_lc7 : (am_kl7).all (am_lok 7) = true := by decide +kernel
theorem am_mc8 : (am_m8).all (am_cok 8) = true := by decide +kernel
theorem am_fc8 : (am_f8).all (am_fok 8) = true := by decide +kernel
theorem am_kc8 : (am_ki8).all (am_kok 8) = true := by decide +kernel
theorem am_lc8 : (am_kl8).all (am_lok 8) = true := by decide +kernel
theorem am_mc9 : (am_m9).all (am_cok 9) = true := by decide +kernel
theorem am_fc9 : (am_f9).all (am_fok 9) = true := by decide +kernel
theorem am_kc9 : (am_ki9).all (am_kok 9) = true := by decide +kernel
theorem am_lc9 : (am_kl9).all (am_lok 9) = true := by decide +kernel
theorem am_mc10 : (am_m10).all (am_cok 10) = true := by decide +kernel
theorem am_fc10 : (am_f10).all (am_fok 10) = true := by decide +kernel
theorem am_kc10 : (am_ki10).all (am_kok 10) = true := by decide +kernel
theorem am_lc10 : (am_kl10).all (am_lok 10) = true := by decide +kernel
theorem am_mc11 : (am_m11).all (am_cok 11) = true := by decide +kernel
theorem am_fc11 : (am_f11).all (am_fok 11) = true := by decide +kernel
theorem am_kc11 : (am_ki11).all (am_kok 11) = true := by decide +kernel
theorem am_lc11 : (am_kl11).all (am_lok 11) = true := by decide +kernel
theorem am_mc12 : (am_m12).all (am_cok 12) = true := by decide +kernel
theorem am_fc12 : (am_f12).all (am_fok 12) = true := by decide +kernel
theorem am_kc12 : (am_ki12).all (am_kok 12) = true := by decide +kernel
theorem am_lc12 : (am_kl12).all (am_lok 12) = true := by decide +kernel
theorem am_mc13 : (am_m13).all (am_cok 13) = true := by decide +kernel
theorem am_fc13 : (am_f13).all (am_fok 13) = true := by decide +kernel
theorem am_kc13 : (am_ki13).all (am_kok 13) = true := by decide +kernel
theorem am_lc13 : (am_kl13).all (am_lok 13) = true := by decide +kernel
theorem am_mc14 : (am_m14).all (am_cok 14) = true := by decide +kernel
theorem am_fc14 : (am_f14).all (am_fok 14) = true := by decide +kernel
theorem am_kc14 : (am_ki14).all (am_kok 14) = true := by decide +kernel
theorem am_lc14 : (am_kl14).all (am_lok 14) = true := by decide +kernel
theorem am_mc15 : (am_m15).all (am_cok 15) = true := by decide +kernel
theorem am_fc15 : (am_f15).all (am_fok 15) = true := by decide +kernel
theorem am_kc15 : (am_ki15).all (am_kok 15) = true := by decide +kernel
theorem am_lc15 : (am_kl15).all (am_lok 15) = true := by decide +kernel
theorem am_mc16 : (am_m16).all (am_cok 16) = true := by decide +kernel
theorem am_fc16 : (am_f16).all (am_fok 16) = true := by decide +kernel
theorem am_kc16 : (am_ki16).all (am_kok 16) = true := by decide +kernel
theorem am_lc16 : (am_kl16).all (am_lok 16) = true := by decide +kernel
theorem am_m_all (k : Nat) : (am_m k).all (am_cok k) = true := match k with
  | 0 => am_mc0
  | 1 => am_mc1
  | 2 => am_mc2
  | 3 => am_mc3
  | 4 => am_mc4
  | 5 => am_mc5
  | 6 => am_mc6
  | 7 => am_mc7
  | 8 => am_mc8
  | 9 => am_mc9
  | 10 => am_mc10
  | 11 => am_mc11
  | 12 => am_mc12
  | 13 => am_mc13
  | 14 => am_mc14
  | 15 => am_mc15
  | 16 => am_mc16
  | _ + 17 => rfl
theorem am_f_all (k : Nat) : (am_f k).all (am_fok k) = true := match k with
  | 0 => am_fc0
  | 1 => am_fc1
  | 2 => am_fc2
  | 3 => am_fc3
  | 4 => am_fc4
  | 5 => am_fc5
  | 6 => am_fc6
  | 7 => am_fc7
  | 8 => am_fc8
  | 9 => am_fc9
  | 10 => am_fc10
  | 11 => am_fc11
  | 12 => am_fc12
  | 13 => am_fc13
  | 14 => am_fc14
  | 15 => am_fc15
  | 16 => am_fc16
  | _ + 17 => rfl
theorem am_ki_all (k : Nat) : (am_ki k).all (am_kok k) = true := match k with
  | 0 => am_kc0
  | 1 => am_kc1
  | 2 => am_kc2
  | 3 => am_kc3
  | 4 => am_kc4
  | 5 => am_kc5
  | 6 => am_kc6
  | 7 => am_kc7
  | 8 => am_kc8
  | 9 => am_kc9
  | 10 => am_kc10
  | 11 => am_kc11
  | 12 => am_kc12
  | 13 => am_kc13
  | 14 => am_kc14
  | 15 => am_kc15
  | 16 => am_kc16
  | _ + 17 => rfl
theorem am_kl_all (k : Nat) : (am_kl k).all (am_lok k) = true := match k with
  | 0 => am_lc0
  | 1 => am_lc1
  | 2 => am_lc2
  | 3 => am_lc3
  | 4 => am_lc4
  | 5 => am_lc5
  | 6 => am_lc6
  | 7 => am_lc7
  | 8 => am_lc8
  | 9 => am_lc9
  | 10 => am_lc10
  | 11 => am_lc11
  | 12 => am_lc12
  | 13 => am_lc13
  | 14 => am_lc14
  | 15 => am_lc15
  | 16 => am_lc16
  | _ + 17 => rfl
theorem am_law_dok0 : am_dok (am_by t_LAW_law) k_LAW_0 = true := by decide +kernel
theorem am_law_dok1 : am_dok (am_by t_LAW_law) k_LAW_1 = true := by decide +kernel
theorem am_law_dok2 : am_dok (am_by t_LAW_law) k_LAW_2 = true := by decide +kernel
theorem am_law_dok3 : am_dok (am_by t_LAW_law) k_LAW_3 = true := by decide +kernel
theorem am_law_dok4 : am_dok (am_by t_LAW_law) k_LAW_4 = true := by decide +kernel
theorem am_law_dok5 : am_dok (am_by t_LAW_law) k_LAW_5 = true := by decide +kernel
theorem am_law_dok6 : am_dok (am_by t_LAW_law) k_LAW_6 = true := by decide +kernel
theorem am_law_dok7 : am_dok (am_by t_LAW_law) k_LAW_7 = true := by decide +kernel
theorem am_law_dok8 : am_dok (am_by t_LAW_law) k_LAW_8 = true := by decide +kernel
theorem am_law_dok9 : am_dok (am_by t_LAW_law) k_LAW_9 = true := by decide +kernel
theorem am_law_dok10 : am_dok (am_by t_LAW_law) k_LAW_10 = true := by decide +kernel
theorem am_law_dok11 : am_dok (am_by t_LAW_law) k_LAW_11 = true := by decide +kernel
theorem am_law_dok12 : am_dok (am_by t_LAW_law) k_LAW_12 = true := by decide +kernel
theorem am_law_dok13 : am_dok (am_by t_LAW_law) k_LAW_13 = true := by decide +kernel
theorem am_law_dok14 : am_dok (am_by t_LAW_law) k_LAW_14 = true := by decide +kernel
theorem am_law_dok15 : am_dok (am_by t_LAW_law) k_LAW_15 = true := by decide +kernel
theorem am_law_dok16 : am_dok (am_by t_LAW_law) k_LAW_16 = true := by decide +kernel
theorem am_law_dok17 : am_dok (am_by t_LAW_law) k_LAW_17 = true := by decide +kernel
theorem am_law_dok18 : am_dok (am_by t_LAW_law) k_LAW_18 = true := by decide +kernel
theorem am_law_dok19 : am_dok (am_by t_LAW_law) k_LAW_19 = true := by decide +kernel
theorem am_law_dok20 : am_dok (am_by t_LAW_law) k_LAW_20 = true := by decide +kernel
theorem am_dok_app {b : ByteArray} {l l2 : List (Nat × Instr × Nat)} (h : am_dok b l = true) (h2 : am_dok b l2 = true) : am_dok b (l ++ l2) = true := by unfold am_dok at *; rw [List.all_append, h, h2]; rfl
theorem am_law_dok : am_dok (am_by t_LAW_law) (am_cd t_LAW_law) = true := am_dok_app am_law_dok0 (am_dok_app am_law_dok1 (am_dok_app am_law_dok2 (am_dok_app am_law_dok3 (am_dok_app am_law_dok4 (am_dok_app am_law_dok5 (am_dok_app am_law_dok6 (am_dok_app am_law_dok7 (am_dok_app am_law_dok8 (am_dok_app am_law_dok9 (am_dok_app am_law_dok10 (am_dok_app am_law_dok11 (am_dok_app am_law_dok12 (am_dok_app am_law_dok13 (am_dok_app am_law_dok14 (am_dok_app am_law_dok15 (am_dok_app am_law_dok16 (am_dok_app am_law_dok17 (am_dok_app am_law_dok18 (am_dok_app am_law_dok19 (am_law_dok20))))))))))))))))))))
theorem am_law_rok : am_rok t_LAW_law = true := by decide +kernel
theorem am_law_cok : (am_cd t_LAW_law).all (am_cokI (am_ow t_LAW_law)) = true := by decide +kernel
/-- the objects' places and the classes' tables -/
def am_tyof (ci : Nat) : Nat → FieldType := match ci with
  | 0 => tyX0
  | 1 => tyX1
  | 2 => tyX2
  | 3 => tyX3
  | 4 => tyX4
  | 5 => tyX5
  | 6 => tyX6
  | 7 => tyX7
  | 8 => tyX8
  | _ => tyX9
def am_fdok (r : vw_C) (k : Nat) (f : Nat) : Bool := match f with
  | 0 => decide ((r.2.1 k).2.2.1 = "I") && !(r.2.1 k).2.2.2
  | 1 => decide ((r.2.1 k).2.2.1 = "J") && !(r.2.1 k).2.2.2
  | 2 => decide ((r.2.1 k).2.2.1 = "Z") && !(r.2.1 k).2.2.2
  | _ => true
def am_LLok : Bool := am_LL.all fun e => match e with
  | .inl n => Nat.blt n 1000000
  | .inr (ci, fs) => (match am_cl[ci]? with
    | some r => (Nat.beq fs.length r.2.2 && Nat.blt fs.length 50) && (List.range fs.length).all (fun k => match fs[k]? with | some f => am_fdok r k f && decide (f ≠ 7003) | none => false)
    | none => false)
theorem am_LL_ok : am_LLok = true := by decide +kernel
theorem am_cls (ci : Nat) (r : vw_C) (h : am_cl[ci]? = some r) : (∀ k, k < r.2.2 → parseFieldDescriptor (r.2.1 k).2.2.1 = some (am_tyof ci k)) ∧ (∀ a, a < r.2.2 → ∀ b, b < r.2.2 → a ≠ b → (r.2.1 a).2.1 ≠ (r.2.1 b).2.1) ∧ ∀ w ∈ u_ws r.1 r.2.1 r.2.2, w ∈ am_tbl := by
  match ci, h with
  | 0, h => cases h; exact ⟨tyX0_ok, nmX0, am_ws0⟩
  | 1, h => cases h; exact ⟨tyX1_ok, nmX1, am_ws1⟩
  | 2, h => cases h; exact ⟨tyX2_ok, nmX2, am_ws2⟩
  | 3, h => cases h; exact ⟨tyX3_ok, nmX3, am_ws3⟩
  | 4, h => cases h; exact ⟨tyX4_ok, nmX4, am_ws4⟩
  | 5, h => cases h; exact ⟨tyX5_ok, nmX5, am_ws5⟩
  | 6, h => cases h; exact ⟨tyX6_ok, nmX6, am_ws6⟩
  | 7, h => cases h; exact ⟨tyX7_ok, nmX7, am_ws7⟩
  | 8, h => cases h; exact ⟨tyX8_ok, nmX8, am_ws8⟩
  | 9, h => cases h; exact ⟨tyX9_ok, nmX9, am_ws9⟩
  | k + 10, h => simp [am_cl] at h
end
section
/-! the abstract machine: a memory of ints (cell, place), references are numbers of cells; 5000 is the script, 6000 + i a String constant, 6100 + i its bytes, 7000 a static that nobody looks at -/
abbrev am_M : Type := Nat → Nat → Int32
abbrev am_C : Type := Nat × List Value × List Value × am_M
def am_up (M : am_M) (a k : Nat) (x : Int32) : am_M := fun b j => if b = a then (if j = k then x else M b j) else M b j
def am_hi (x : Int64) : Int32 := Int32.ofInt (x.toInt / 4294967296)
def am_lw (x : Int64) : Int32 := Int32.ofInt (x.toInt % 4294967296)
def am_lg (h l : Int32) : Int64 := Int64.ofInt (h.toInt * 4294967296 + l.toInt % 4294967296)
def am_fv (M : am_M) (a k : Nat) (f : Nat) : Value := match f with
  | 0 => .int (M a k)
  | 1 => .long (am_lg (M a k) (M a (k + 100)))
  | 2 => .int (M a k)
  | r + 3 => .ref r
def am_al (a : Nat) : Option Nat := match am_LL[a]? with
  | some (.inl n) => some n
  | _ => none
def am_sl : List Nat := [6, 7, 6, 8, 2, 2, 3, 3, 6]
def am_sb : List (List Int32) := [[105, 110, 115, 101, 114, 116], [114, 101, 112, 108, 97, 99, 101], [114, 101, 112, 101, 97, 108], [114, 101, 110, 117, 109, 98, 101, 114], [105, 110], [116, 111], [102, 111, 114], [112, 117, 116], [115, 97, 118, 105, 110, 103]]
def am_ld (ls : List Value) (k : Nat) : Option Value := match ls[k]? with
  | some .null => none
  | o => o
def am_nl (ls : List Value) (k : Nat) : Bool := match k with
  | 0 => true
  | j + 1 => match ls[j]? with
    | some (.long _) => false
    | some (.double _) => false
    | _ => true
def am_s1 (ls : List Value) (k : Nat) (v : Value) : Option (List Value) := bif Nat.blt k ls.length && am_nl ls k then some (ls.set k v) else none
def am_s2 (ls : List Value) (k : Nat) (v : Value) : Option (List Value) := bif Nat.blt (k + 1) ls.length && am_nl ls k then some ((ls.set k v).set (k + 1) .null) else none
def am_tgo (pc : Nat) (off : Int) : Option Nat := if 0 ≤ (pc : Int) + off then some ((pc : Int) + off).toNat else none
def am_br (c : Jvm.ClassFile.Cond) (x y : Int32) (a b : Nat) : Nat := match c with
  | .eq => if x = y then a else b
  | .ne => if x = y then b else a
  | .lt => if x < y then a else b
  | .ge => if x < y then b else a
  | .gt => if y < x then a else b
  | .le => if y < x then b else a
def am_sw (d lo hi : Int) (os : Array Int) (x : Int) : Int := if x < lo then d else if hi < x then d else (os[(x - lo).toNat]?).getD d
def am_gs (ow idx : Nat) : Option Value := bif Nat.beq ow 14 then (bif Nat.beq idx 38 then some (.int 1) else bif Nat.beq idx 1053 then some (.ref 7000) else none) else none
def am_sf (ow idx a : Nat) : Option Value := bif Nat.beq ow 14 && Nat.ble 6000 a && Nat.blt a 6009 then (bif Nat.beq idx 9 then some (.ref (a + 100)) else bif Nat.beq idx 15 then some (.int 0) else none) else none
def am_gf (ow idx a : Nat) (M : am_M) : Option Value := match am_fl ow idx with
  | some (ci, k) => (match am_LL[a]? with
    | some (.inr (cj, fs)) => bif Nat.beq ci cj then (match fs[k]? with
      | some f => some (am_fv M a k f)
      | none => none) else none
    | _ => none)
  | none => am_sf ow idx a
def am_pf (ow idx a : Nat) (v : Value) (M : am_M) : Option am_M := match am_fl ow idx with
  | some (ci, k) => (match am_LL[a]? with
    | some (.inr (cj, fs)) => bif Nat.beq ci cj then (match fs[k]?, v with
      | some 0, .int x => some (am_up M a k x)
      | some 1, .long x => some (am_up (am_up M a k (am_hi x)) a (k + 100) (am_lw x))
      | some 2, .int x => if x = 0 ∨ x = 1 then some (am_up M a k x) else none
      | _, _ => none) else none
    | _ => none)
  | none => none
def am_len (a : Nat) (M : am_M) : Option Int32 := match am_al a with
  | some n => some (Int32.ofNat n)
  | none => bif Nat.beq a 5000 then some (M 5001 0) else bif Nat.ble 6100 a && Nat.blt a 6109 then some (Int32.ofNat (am_sl.getD (a - 6100) 0)) else none
def am_il (a : Nat) (i : Int32) (M : am_M) : Option Int32 := match am_al a with
  | some n => if i < 0 ∨ n ≤ i.toNatClampNeg then none else some (M a i.toNatClampNeg)
  | none => bif Nat.beq a 5000 then (if i < 0 ∨ (M 5001 0).toNatClampNeg ≤ i.toNatClampNeg then none else some (M 5000 i.toNatClampNeg)) else none
def am_bl (a : Nat) (i : Int32) : Option Int32 := bif Nat.ble 6100 a && Nat.blt a 6109 then (if i < 0 ∨ am_sl.getD (a - 6100) 0 ≤ i.toNatClampNeg then none else some ((am_sb.getD (a - 6100) []).getD i.toNatClampNeg 0)) else none
def am_is (a : Nat) (i x : Int32) (M : am_M) : Option am_M := match am_al a with
  | some n => if i < 0 ∨ n ≤ i.toNatClampNeg then none else some (am_up M a i.toNatClampNeg x)
  | none => none
/-- an instruction that is no call and no answer -/
def am_ex (ow : Nat) (i : Instr) (n pc : Nat) (ls st : List Value) (M : am_M) : Option am_C := match i with
  | .iconst v => some (pc + n, ls, .int (Int32.ofInt v) :: st, M)
  | .bipush v => some (pc + n, ls, .int (Int8.ofInt v).toInt32 :: st, M)
  | .sipush v => some (pc + n, ls, .int (Int16.ofInt v).toInt32 :: st, M)
  | .lconst v => some (pc + n, ls, .long (Int64.ofNat (v : Nat)) :: st, M)
  | .ldc k => (match am_as (am_ki ow) k with
    | some q => some (pc + n, ls, .int q.1 :: st, M)
    | none => bif Nat.beq ow 5 then (match am_as am_ks5 k with
      | some j => some (pc + n, ls, .ref (6000 + j) :: st, M)
      | none => none) else none)
  | .ldc_w k => (match am_as (am_ki ow) k with
    | some q => some (pc + n, ls, .int q.1 :: st, M)
    | none => none)
  | .ldc2_w k => (match am_as (am_kl ow) k with
    | some q => some (pc + n, ls, .long q.1 :: st, M)
    | none => none)
  | .iload k => (match am_ld ls k with
    | some (.int x) => some (pc + n, ls, .int x :: st, M)
    | _ => none)
  | .iload_n k => (match am_ld ls k.val with
    | some (.int x) => some (pc + n, ls, .int x :: st, M)
    | _ => none)
  | .lload k => (match am_ld ls k with
    | some (.long x) => some (pc + n, ls, .long x :: st, M)
    | _ => none)
  | .lload_n k => (match am_ld ls k.val with
    | some (.long x) => some (pc + n, ls, .long x :: st, M)
    | _ => none)
  | .aload k => (match am_ld ls k with
    | some (.ref x) => bif Nat.beq x 7000 then none else some (pc + n, ls, .ref x :: st, M)
    | _ => none)
  | .aload_n k => (match am_ld ls k.val with
    | some (.ref x) => bif Nat.beq x 7000 then none else some (pc + n, ls, .ref x :: st, M)
    | _ => none)
  | .istore k => (match st with
    | .int x :: st => (am_s1 ls k (.int x)).map fun l => (pc + n, l, st, M)
    | _ => none)
  | .istore_n k => (match st with
    | .int x :: st => (am_s1 ls k.val (.int x)).map fun l => (pc + n, l, st, M)
    | _ => none)
  | .lstore k => (match st with
    | .long x :: st => (am_s2 ls k (.long x)).map fun l => (pc + n, l, st, M)
    | _ => none)
  | .lstore_n k => (match st with
    | .long x :: st => (am_s2 ls k.val (.long x)).map fun l => (pc + n, l, st, M)
    | _ => none)
  | .iinc k v => (match am_ld ls k with
    | some (.int x) => (am_s1 ls k (.int (x + Int32.ofInt v))).map fun l => (pc + n, l, st, M)
    | _ => none)
  | .iadd => (match st with
    | .int y :: .int x :: st => some (pc + n, ls, .int (x + y) :: st, M)
    | _ => none)
  | .isub => (match st with
    | .int y :: .int x :: st => some (pc + n, ls, .int (x - y) :: st, M)
    | _ => none)
  | .imul => (match st with
    | .int y :: .int x :: st => some (pc + n, ls, .int (x * y) :: st, M)
    | _ => none)
  | .idiv => (match st with
    | .int y :: .int x :: st => if y = 0 then none else some (pc + n, ls, .int (x / y) :: st, M)
    | _ => none)
  | .irem => (match st with
    | .int y :: .int x :: st => if y = 0 then none else some (pc + n, ls, .int (x - x / y * y) :: st, M)
    | _ => none)
  | .iand => (match st with
    | .int y :: .int x :: st => some (pc + n, ls, .int (x &&& y) :: st, M)
    | _ => none)
  | .ior => (match st with
    | .int y :: .int x :: st => some (pc + n, ls, .int (x ||| y) :: st, M)
    | _ => none)
  | .ixor => (match st with
    | .int y :: .int x :: st => some (pc + n, ls, .int (x ^^^ y) :: st, M)
    | _ => none)
  | .ishl => (match st with
    | .int y :: .int x :: st => some (pc + n, ls, .int (x <<< (y &&& 31)) :: st, M)
    | _ => none)
  | .ishr => (match st with
    | .int y :: .int x :: st => some (pc + n, ls, .int (x >>> (y &&& 31)) :: st, M)
    | _ => none)
  | .iushr => (match st with
    | .int y :: .int x :: st => some (pc + n, ls, .int (x.toUInt32 >>> (y.toUInt32 &&& Int32.toUInt32 31)).toInt32 :: st, M)
    | _ => none)
  | .ladd => (match st with
    | .long y :: .long x :: st => some (pc + n, ls, .long (x + y) :: st, M)
    | _ => none)
  | .lsub => (match st with
    | .long y :: .long x :: st => some (pc + n, ls, .long (x - y) :: st, M)
    | _ => none)
  | .lmul => (match st with
    | .long y :: .long x :: st => some (pc + n, ls, .long (x * y) :: st, M)
    | _ => none)
  | .lcmp => (match st with
    | .long y :: .long x :: st => some (pc + n, ls, .int (lg_cmp x y) :: st, M)
    | _ => none)
  | .i2l => (match st with
    | .int x :: st => some (pc + n, ls, .long x.toInt64 :: st, M)
    | _ => none)
  | .i2c => (match st with
    | .int x :: st => some (pc + n, ls, .int (x.toUInt32 % 65536).toInt32 :: st, M)
    | _ => none)
  | .dup => (match st with
    | .int x :: st => some (pc + n, ls, .int x :: .int x :: st, M)
    | .ref x :: st => some (pc + n, ls, .ref x :: .ref x :: st, M)
    | _ => none)
  | .dup2 => (match st with
    | .int x :: .ref y :: st => some (pc + n, ls, .int x :: .ref y :: .int x :: .ref y :: st, M)
    | _ => none)
  | .pop => (match st with
    | .int _ :: st => some (pc + n, ls, st, M)
    | _ => none)
  | .goto off => (match am_tgo pc off with
    | some tg => some (tg, ls, st, M)
    | none => none)
  | .ifCond c off => (match st with
    | .int x :: st => (match am_tgo pc off with
      | some tg => some (am_br c x 0 tg (pc + n), ls, st, M)
      | none => none)
    | _ => none)
  | .if_icmp c off => (match st with
    | .int y :: .int x :: st => (match am_tgo pc off with
      | some tg => some (am_br c x y tg (pc + n), ls, st, M)
      | none => none)
    | _ => none)
  | .tableswitch d lo hi os => (match st with
    | .int x :: st => (match am_tgo pc (am_sw d lo hi os x.toInt) with
      | some tg => some (tg, ls, st, M)
      | none => none)
    | _ => none)
  | .lookupswitch d ps => (match st with
    | .int x :: st => (match am_tgo pc (Op.lookupswitch.offset ps.toList d x.toInt) with
      | some tg => some (tg, ls, st, M)
      | none => none)
    | _ => none)
  | .getstatic k => (match am_gs ow k with
    | some v => some (pc + n, ls, v :: st, M)
    | none => none)
  | .getfield k => (match st with
    | .ref a :: st => (match am_gf ow k a M with
      | some v => some (pc + n, ls, v :: st, M)
      | none => none)
    | _ => none)
  | .putfield k => (match st with
    | v :: .ref a :: st => (match am_pf ow k a v M with
      | some M' => some (pc + n, ls, st, M')
      | none => none)
    | _ => none)
  | .arraylength => (match st with
    | .ref a :: st => (match am_len a M with
      | some x => some (pc + n, ls, .int x :: st, M)
      | none => none)
    | _ => none)
  | .iaload => (match st with
    | .int i :: .ref a :: st => (match am_il a i M with
      | some x => some (pc + n, ls, .int x :: st, M)
      | none => none)
    | _ => none)
  | .baload => (match st with
    | .int i :: .ref a :: st => (match am_bl a i with
      | some x => some (pc + n, ls, .int x :: st, M)
      | none => none)
    | _ => none)
  | .iastore => (match st with
    | .int x :: .int i :: .ref a :: st => (match am_is a i x M with
      | some M' => some (pc + n, ls, st, M')
      | none => none)
    | _ => none)
  | _ => none
def am_step (t : am_T) (c : am_C) : Option am_C := match am_as (am_cd t) c.1 with
  | some (i, n) => am_ex (am_ow t) i n c.1 c.2.1 c.2.2.1 c.2.2.2
  | none => none
/-- arraycopy between two arrays -/
def am_cpm (M : am_M) (a0 a : Nat) (sp dp n : Nat) : am_M := fun b j => if b = a then va_cpy (M a0) (M a) sp dp n j else M b j
def am_cp (t : am_T) (c c' : am_C) : Prop := ∃ (k : Nat) (a0 a n0 n1 : Nat) (sp dp n : Int32), am_as (am_cd t) c.1 = some (.invokestatic k, 3) ∧ am_ac (am_ow t) k = true ∧ c.2.2.1 = [.int n, .int dp, .ref a, .int sp, .ref a0] ∧ am_al a0 = some n0 ∧ am_al a = some n1 ∧
  ¬ sp < 0 ∧ ¬ dp < 0 ∧ ¬ n < 0 ∧ sp.toNatClampNeg + n.toNatClampNeg ≤ n0 ∧ dp.toNatClampNeg + n.toNatClampNeg ≤ n1 ∧ c' = (c.1 + 3, c.2.1, [], am_cpm c.2.2.2 a0 a sp.toNatClampNeg dp.toNatClampNeg n.toNatClampNeg)
/-- Math.min -/
def am_mn (t : am_T) (c c' : am_C) : Prop := ∃ (k : Nat) (x y : Int32) (st : List Value), am_as (am_cd t) c.1 = some (.invokestatic k, 3) ∧ am_mnl (am_ow t) k = true ∧ c.2.2.1 = .int y :: .int x :: st ∧ (st.map fun v => v.category).sum ≤ 8 ∧ c' = (c.1 + 3, c.2.1, .int (if y < x then y else x) :: st, c.2.2.2)
/-- locals that nobody reads any more -/
def am_fg (c c' : am_C) : Prop := ∃ ls' : List Value, ls'.length = c.2.1.length ∧ (∀ (i : Nat) (v : Value), ls'[i]? = some v → v = .null ∨ c.2.1[i]? = some v) ∧ c' = (c.1, ls', c.2.2.1, c.2.2.2)
def am_oth (t : am_T) (c c' : am_C) : Prop := am_cp t c c' ∨ am_mn t c c' ∨ am_fg c c'
abbrev am_Rn : Type := am_T → List Value → am_M → Option Value → am_M → Prop
def am_cw (st : List Value) : Nat := (st.map fun v => v.category).sum
/-- the receiver is an object of the class -/
def am_rv (ow : Nat) (av : List Value) : Bool := match av with
  | .ref a :: _ => (match am_LL[a]? with
    | some (.inr (ci, _)) => Nat.beq ci ow
    | _ => Nat.beq ow 14 && Nat.ble 6000 a && Nat.blt a 6009)
  | _ => false
/-- a call, by what is known of the method that is called -/
def am_cal (R : am_Rn) (t : am_T) (c c' : am_C) : Prop := ∃ (i : Instr) (k : Nat) (t' : am_T) (av rest : List Value) (rv : Option Value) (M' : am_M), am_as (am_cd t) c.1 = some (i, 3) ∧ am_iv i = some k ∧ am_ml (am_ow t) k = some t' ∧ c.2.2.1 = av.reverse ++ rest ∧ am_cw rest ≤ 8 ∧ (am_vi i = true → am_rv (am_ow t') av = true) ∧
  R t' av c.2.2.2 rv M' ∧ c' = (c.1 + 3, c.2.1, rv.toList ++ rest, M')
def am_go (R : am_Rn) (t : am_T) : Nat → am_C → am_C → Prop
  | 0, c, c' => c = c'
  | k + 1, c, c' => ∃ c1, (am_step t c = some c1 ∨ am_oth t c c1 ∨ am_cal R t c c1) ∧ am_go R t k c1 c'
/-- the answer at the end -/
def am_ret (t : am_T) (c : am_C) (rv : Option Value) : Prop := match rv with
  | none => am_as (am_cd t) c.1 = some (.return_, 1) ∧ c.2.2.1 = [] ∧ am_rt t = none
  | some (.int x) => am_as (am_cd t) c.1 = some (.ireturn, 1) ∧ c.2.2.1 = [.int x] ∧ ∃ ty, am_rt t = some ty ∧ narrow ty (.int x) = .int x
  | some (.long x) => am_as (am_cd t) c.1 = some (.lreturn, 1) ∧ c.2.2.1 = [.long x] ∧ am_rt t = some .long
  | some (.ref x) => am_as (am_cd t) c.1 = some (.areturn, 1) ∧ c.2.2.1 = [.ref x] ∧ False
  | _ => False
def am_sl1 (vs : List Value) : List Value := vs.flatMap fun v => if v.category = 2 then [v, .null] else [v]
/-- the locals with which a method begins -/
def am_ent (n : Nat) (av : List Value) : List Value := am_sl1 av ++ List.replicate (n - (am_sl1 av).length) .null
def am_run : Nat → am_Rn
  | 0 => fun _ _ _ _ _ => False
  | d + 1 => fun t av M rv M' => ((am_sl1 av).length ≤ am_mL t ∧ av.length = am_ar t) ∧ ∃ (k : Nat) (c : am_C), am_go (am_run d) t k (0, am_ent (am_mL t) av, [], M) c ∧ am_ret t c rv ∧ c.2.2.2 = M'
def am_call : am_Rn := fun t av M rv M' => ∃ d, am_run d t av M rv M'
/-- from here the method ends, and Q holds of the answer and the memory -/
def am_x (t : am_T) (c : am_C) (Q : Option Value → am_M → Prop) : Prop := ∃ (d k : Nat) (c' : am_C) (rv : Option Value), am_go (am_run d) t k c c' ∧ am_ret t c' rv ∧ Q rv c'.2.2.2
/-! its rules -/
theorem am_go_mono {R R' : am_Rn} (h : ∀ t av M rv M', R t av M rv M' → R' t av M rv M') (t : am_T) : ∀ (k : Nat) (c c' : am_C), am_go R t k c c' → am_go R' t k c c' := by
  intro k
  induction k with
  | zero => intro c c' hg; exact hg
  | succ k ih =>
    intro c c' hg
    obtain ⟨c1, h1, h2⟩ := hg
    refine ⟨c1, ?_, ih _ _ h2⟩
    rcases h1 with h1 | h1 | h1
    · exact Or.inl h1
    · exact Or.inr (Or.inl h1)
    · obtain ⟨i, k0, t', av, rest, rv, M', a1, a2, a3, a4, a5, a8, a6, a7⟩ := h1
      exact Or.inr (Or.inr ⟨i, k0, t', av, rest, rv, M', a1, a2, a3, a4, a5, a8, h _ _ _ _ _ a6, a7⟩)
theorem am_run_succ : ∀ (d : Nat) (t : am_T) (av : List Value) (M : am_M) (rv : Option Value) (M' : am_M), am_run d t av M rv M' → am_run (d + 1) t av M rv M' := by
  intro d
  induction d with
  | zero => intro t av M rv M' h; exact h.elim
  | succ d ih =>
    intro t av M rv M' h
    obtain ⟨h0, k, c, h1, h2, h3⟩ := h
    exact ⟨h0, k, c, am_go_mono ih t k _ _ h1, h2, h3⟩
theorem am_run_le {d d' : Nat} (h : d ≤ d') {t : am_T} {av : List Value} {M : am_M} {rv : Option Value} {M' : am_M} (hr : am_run d t av M rv M') : am_run d' t av M rv M' := by
  induction h with
  | refl => exact hr
  | step _ ih => exact am_run_succ _ _ _ _ _ _ ih
theorem am_go_le {d d' : Nat} (h : d ≤ d') {t : am_T} {k : Nat} {c c' : am_C} (hg : am_go (am_run d) t k c c') : am_go (am_run d') t k c c' := am_go_mono (fun _ _ _ _ _ => am_run_le h) t k c c' hg
def am_steps (t : am_T) : Nat → am_C → Option am_C
  | 0, c => some c
  | n + 1, c => match am_step t c with
    | some c' => am_steps t n c'
    | none => none
theorem am_x1 {t : am_T} {c c1 : am_C} {Q : Option Value → am_M → Prop} (h : am_step t c = some c1) (k : am_x t c1 Q) : am_x t c Q := by
  obtain ⟨d, n, c', rv, h1, h2, h3⟩ := k
  exact ⟨d, n + 1, c', rv, ⟨c1, Or.inl h, h1⟩, h2, h3⟩
theorem am_xn (n : Nat) {t : am_T} {c c1 : am_C} {Q : Option Value → am_M → Prop} (h : am_steps t n c = some c1) (k : am_x t c1 Q) : am_x t c Q := by
  induction n generalizing c with
  | zero => cases h; exact k
  | succ n ih =>
    unfold am_steps at h
    cases hs : am_step t c with
    | none => rw [hs] at h; cases h
    | some c2 => rw [hs] at h; exact am_x1 hs (ih h)
theorem am_xcp {t : am_T} {c c1 : am_C} {Q : Option Value → am_M → Prop} (h : am_oth t c c1) (k : am_x t c1 Q) : am_x t c Q := by
  obtain ⟨d, n, c', rv, h1, h2, h3⟩ := k
  exact ⟨d, n + 1, c', rv, ⟨c1, Or.inr (Or.inl h), h1⟩, h2, h3⟩
theorem am_xc {t : am_T} {pc : Nat} {ls av rest st : List Value} {M M' : am_M} {rv : Option Value} {Q : Option Value → am_M → Prop} (t' : am_T) (i : Instr) (k : Nat) (h1 : am_as (am_cd t) pc = some (i, 3)) (h2 : am_iv i = some k) (h3 : am_ml (am_ow t) k = some t') (h4 : st = av.reverse ++ rest) (h5 : am_cw rest ≤ 8) (h8 : am_vi i = true → am_rv (am_ow t') av = true)
    (h6 : am_call t' av M rv M') (kk : am_x t (pc + 3, ls, rv.toList ++ rest, M') Q) : am_x t (pc, ls, st, M) Q := by
  obtain ⟨d0, h6⟩ := h6
  obtain ⟨d, n, c', r2, g1, g2, g3⟩ := kk
  exact ⟨max d0 d, n + 1, c', r2, ⟨_, Or.inr (Or.inr ⟨i, k, t', av, rest, rv, M', h1, h2, h3, h4, h5, h8, am_run_le (Nat.le_max_left _ _) h6, rfl⟩), am_go_le (Nat.le_max_right _ _) g1⟩, g2, g3⟩
/-- a local is forgotten -/
theorem am_xf (i : Nat) {t : am_T} {pc : Nat} {ls st : List Value} {M : am_M} {Q : Option Value → am_M → Prop} (k : am_x t (pc, ls.set i .null, st, M) Q) : am_x t (pc, ls, st, M) Q := by
  refine am_xcp (c1 := (pc, ls.set i .null, st, M)) (Or.inr (Or.inr ⟨ls.set i .null, List.length_set .., fun j v h => ?_, rfl⟩)) k
  by_cases hj : i = j
  · subst hj
    have hl := (List.getElem?_eq_some_iff.mp h).1
    rw [List.length_set] at hl
    rw [List.getElem?_set_self hl] at h
    exact Or.inl (Option.some.inj h).symm
  · rw [List.getElem?_set_ne hj] at h
    exact Or.inr h
theorem am_xr {t : am_T} {c : am_C} {Q : Option Value → am_M → Prop} (rv : Option Value) (h : am_ret t c rv) (hq : Q rv c.2.2.2) : am_x t c Q := ⟨0, 0, c, rv, rfl, h, hq⟩
theorem am_call_of {t : am_T} {av : List Value} {M M' : am_M} {rv : Option Value} (h0 : (am_sl1 av).length ≤ am_mL t ∧ av.length = am_ar t) (h : am_x t (0, am_ent (am_mL t) av, [], M) (fun r m => r = rv ∧ m = M')) : am_call t av M rv M' := by
  obtain ⟨d, k, c', r, h1, h2, h3, h4⟩ := h
  subst h3
  exact ⟨d + 1, h0, k, c', h1, h2, h4⟩
theorem am_xif {t : am_T} {P : Prop} [Decidable P] {a b : Nat} {ls st : List Value} {M : am_M} {Q : Option Value → am_M → Prop} (ht : P → am_x t (a, ls, st, M) Q) (hf : ¬ P → am_x t (b, ls, st, M) Q) : am_x t (if P then a else b, ls, st, M) Q := by
  by_cases h : P
  · rw [if_pos h]; exact ht h
  · rw [if_neg h]; exact hf h
theorem am_xw {t : am_T} {c : am_C} {Q Q' : Option Value → am_M → Prop} (h : am_x t c Q) (hq : ∀ r m, Q r m → Q' r m) : am_x t c Q' := by
  obtain ⟨d, k, c', r, h1, h2, h3⟩ := h
  exact ⟨d, k, c', r, h1, h2, hq _ _ h3⟩
theorem am_lg_hl (x : Int64) : am_lg (am_hi x) (am_lw x) = x := by
  apply Int64.toInt_inj.mp
  have h1 := Int64.le_toInt x
  have h2 := Int64.toInt_lt x
  unfold am_lg am_hi am_lw
  rw [Int64.toInt_ofInt, Int32.toInt_ofInt, Int32.toInt_ofInt]
  have e1 : (x.toInt / 4294967296).bmod (2 ^ 32) = x.toInt / 4294967296 := Int.bmod_eq_of_le (by omega) (by omega)
  have e2 : (x.toInt % 4294967296).bmod (2 ^ 32) % 4294967296 = x.toInt % 4294967296 := by
    have := Int.bmod_emod (x := x.toInt % 4294967296) (m := 2 ^ 32)
    omega
  rw [show Int32.size = 2 ^ 32 from rfl, show Int64.size = 2 ^ 64 from rfl, e1, e2]
  have e3 : x.toInt / 4294967296 * 4294967296 + x.toInt % 4294967296 = x.toInt := by omega
  rw [e3]
  exact Int.bmod_eq_of_le (by omega) (by omega)
theorem am_up_self (M : am_M) (a k : Nat) (x : Int32) : am_up M a k x a k = x := by simp [am_up]
theorem am_up_ne (M : am_M) (a k : Nat) (x : Int32) {b j : Nat} (h : ¬ (b = a ∧ j = k)) : am_up M a k x b j = M b j := by
  unfold am_up
  by_cases hb : b = a
  · rw [if_pos hb, if_neg (fun q => h ⟨hb, q⟩)]
  · rw [if_neg hb]
end
section
/-! the abstract machine's steps are the machine's: pictures -/
theorem am_w38 : Cond.fieldLink "java/lang/String" 38 "java/lang/String" "COMPACT_STRINGS" "Z" ∈ am_tbl := am_mem (i := 394) (by decide +kernel) (by decide +kernel)
theorem am_w1053 : Cond.fieldLink "java/lang/String" 1053 "jdk/internal/util/Preconditions" "SIOOBE_FORMATTER" "Ljava/util/function/BiFunction;" ∈ am_tbl := am_mem (i := 410) (by decide +kernel) (by decide +kernel)
theorem am_w9 : Cond.fieldLink "java/lang/String" 9 "java/lang/String" "value" "[B" ∈ am_tbl := am_mem (i := 1525) (by decide +kernel) (by decide +kernel)
theorem am_w15 : Cond.fieldLink "java/lang/String" 15 "java/lang/String" "coder" "B" ∈ am_tbl := am_mem (i := 1526) (by decide +kernel) (by decide +kernel)
theorem am_wac1 : Cond.methodLink (am_cn 6) 25 arraycopyName ∈ am_tbl := am_mem (i := 541) (by decide +kernel) (by decide +kernel)
theorem am_wac2 : Cond.native arraycopyName ∈ am_tbl := am_mem (i := 543) (by decide +kernel) (by decide +kernel)
theorem am_wac3 : Cond.static arraycopyName ∈ am_tbl := am_mem (i := 542) (by decide +kernel) (by decide +kernel)
theorem am_wac4 : Cond.initialized "java/lang/System" ∈ am_tbl := am_mem (i := 124) (by decide +kernel) (by decide +kernel)
def am_tv (ad : Nat → Nat) (z : Value) (v : Value) : Value := match v with
  | .ref r => if r = 7000 then z else .ref (ad r)
  | v => v
def am_zok (z : Value) : Prop := z = .null ∨ ∃ t : Nat, z = .ref t
theorem am_tv_ref {ad : Nat → Nat} {z : Value} {r : Nat} (h : r ≠ 7000) : am_tv ad z (.ref r) = .ref (ad r) := if_neg h
theorem am_tv_cat {ad : Nat → Nat} {z : Value} (hz : am_zok z) (v : Value) : (am_tv ad z v).category = v.category := by
  cases v with
  | ref r =>
    unfold am_tv
    dsimp only
    by_cases h : r = 7000
    · rw [if_pos h]
      rcases hz with rfl | ⟨t, rfl⟩ <;> rfl
    · rw [if_neg h]; rfl
  | _ => rfl
theorem am_cw_tv {ad : Nat → Nat} {z : Value} (hz : am_zok z) (st : List Value) : am_cw (st.map (am_tv ad z)) = am_cw st := by
  unfold am_cw
  rw [List.map_map]
  congr 1
  apply List.map_congr_left
  intro v _
  exact am_tv_cat hz v
def am_fw (ad : Nat → Nat) (M : am_M) (a k : Nat) (f : Nat) : Value := match f with
  | 0 => .int (M a k)
  | 1 => .long (am_lg (M a k) (M a (k + 100)))
  | 2 => .int (M a k)
  | r + 3 => .ref (ad r)
def am_ce (cI : ClassId) (ad : Nat → Nat) (M : am_M) (k : Nat) (e : Nat ⊕ (Nat × List Nat)) : va_E := match e with
  | .inl n => .inl (cI, n, .inl (M k))
  | .inr q => .inr (q.1, q.2.mapIdx fun j f => am_fw ad M k j f)
def am_wd (cI : ClassId) (ad : Nat → Nat) (M : am_M) : va_W := am_LL.mapIdx fun k e => (ad k, am_ce cI ad M k e)
theorem am_wd_get (cI : ClassId) (ad : Nat → Nat) (M : am_M) (k : Nat) : (am_wd cI ad M)[k]? = (am_LL[k]?).map fun e => (ad k, am_ce cI ad M k e) := by
  unfold am_wd
  rw [List.getElem?_mapIdx]
theorem am_ce_congr {cI : ClassId} {ad : Nat → Nat} {M M' : am_M} {k : Nat} (h : M k = M' k) (e : Nat ⊕ (Nat × List Nat)) : am_ce cI ad M k e = am_ce cI ad M' k e := by
  cases e with
  | inl n => unfold am_ce; dsimp only; rw [h]
  | inr q => unfold am_ce am_fw; dsimp only; rw [h]
theorem am_wd_set {cI : ClassId} {ad : Nat → Nat} {M M' : am_M} {a : Nat} {e : Nat ⊕ (Nat × List Nat)} (he : am_LL[a]? = some e) (h : ∀ b, b ≠ a → M' b = M b) {x : va_E} (hx : x = am_ce cI ad M' a e) : (am_wd cI ad M).set a (ad a, x) = am_wd cI ad M' := by
  subst hx
  apply List.ext_getElem?
  intro j
  rw [List.getElem?_set, am_wd_get, am_wd_get]
  by_cases hj : a = j
  · subst hj
    rw [if_pos rfl, he]
    have hl : a < (am_wd cI ad M).length := by
      have : (am_wd cI ad M)[a]? = some (ad a, am_ce cI ad M a e) := by rw [am_wd_get, he]; rfl
      exact (List.getElem?_eq_some_iff.mp this).1
    rw [if_pos hl]; rfl
  · rw [if_neg hj]
    cases am_LL[j]? with
    | none => rfl
    | some e2 =>
      show some (ad j, am_ce cI ad M j e2) = some (ad j, am_ce cI ad M' j e2)
      rw [am_ce_congr (h j (Ne.symm hj)).symm]
theorem am_up_off (M : am_M) (a k : Nat) (x : Int32) : ∀ b, b ≠ a → am_up M a k x b = M b := by
  intro b hb
  funext j
  exact am_up_ne M a k x (fun q => hb q.1)
theorem am_al_get {a n : Nat} (h : am_al a = some n) : am_LL[a]? = some (.inl n) := by
  unfold am_al at h
  split at h
  · rename_i n' e
    cases h; exact e
  · cases h
theorem am_lt {a : Nat} {e : Nat ⊕ (Nat × List Nat)} (h : am_LL[a]? = some e) : a < 81 := by
  have h1 := (List.getElem?_eq_some_iff.mp h).1
  have h2 : am_LL.length = 81 := by decide +kernel
  omega
/-! locals -/
def am_asc (ad : Nat → Nat) (z : Value) (ls : List Value) : List (Nat × Value) := (List.range ls.length).filterMap fun i => match (ls[i]? : Option Value) with
  | some .null => none
  | some v => some (i, am_tv ad z v)
  | none => none
theorem am_asc_mem {ad : Nat → Nat} {z : Value} {ls : List Value} {q : Nat × Value} : q ∈ am_asc ad z ls ↔ ∃ v, ls[q.1]? = some v ∧ v ≠ .null ∧ q.2 = am_tv ad z v := by
  unfold am_asc
  rw [List.mem_filterMap]
  constructor
  · rintro ⟨i, hi, h⟩
    split at h
    · cases h
    · rename_i v hn hv
      cases h
      exact ⟨v, hv, fun q => hn (by rw [q]), rfl⟩
    · cases h
  · rintro ⟨v, h1, h2, h3⟩
    refine ⟨q.1, List.mem_range.mpr (List.getElem?_eq_some_iff.mp h1).1, ?_⟩
    rw [h1]
    cases v with
    | null => exact absurd rfl h2
    | _ => simp only [← h3]
def am_lv (ad : Nat → Nat) (z : Value) (ls : List Value) (LS : Array Slot) (n : Nat) : Prop := ls.length = n ∧ lv_has LS n (am_asc ad z ls)
theorem am_lv_ld {ad : Nat → Nat} {z : Value} {ls : List Value} {LS : Array Slot} {n k : Nat} {v : Value} (h : am_lv ad z ls LS n) (hk : am_ld ls k = some v) : LS[k]? = some (.val (am_tv ad z v)) := by
  have h1 : ls[k]? = some v ∧ v ≠ .null := by
    unfold am_ld at hk
    split at hk
    · cases hk
    · rename_i o hn
      refine ⟨hk, fun q => hn (by rw [hk, q])⟩
  exact h.2.2.2 (k, am_tv ad z v) (am_asc_mem.mpr ⟨v, h1.1, h1.2, rfl⟩)
theorem lv_mono {LS : Array Slot} {n : Nat} {l l' : List (Nat × Value)} (h : lv_has LS n l) (hs : ∀ q ∈ l', q ∈ l) : lv_has LS n l' := ⟨h.1, h.2.1, fun q hq => h.2.2 q (hs q hq)⟩
theorem am_nl_cat {ls : List Value} {k : Nat} (h : am_nl ls k = true) {j : Nat} (hj : j + 1 = k) {v : Value} (hv : ls[j]? = some v) : ¬ v.category = 2 := by
  subst hj
  unfold am_nl at h
  dsimp only at h
  rw [hv] at h
  cases v <;> simp_all [Value.category]
theorem am_lv_s1 {ad : Nat → Nat} {z : Value} {ls ls' : List Value} {LS : Array Slot} {n k : Nat} {v : Value} (hz : am_zok z) (h : am_lv ad z ls LS n) (hs : am_s1 ls k v = some ls') : k < n ∧ ∀ LS' : Array Slot, lv_has LS' n ((k, am_tv ad z v) :: (am_asc ad z ls).filter (fun q => !(q.1 == k) && !(q.1 + 1 == k && q.2.category == 2))) → am_lv ad z ls' LS' n := by
  unfold am_s1 at hs
  cases hc : (Nat.blt k ls.length && am_nl ls k) with
  | false => rw [hc] at hs; cases hs
  | true =>
    rw [hc] at hs
    cases hs
    rw [Bool.and_eq_true] at hc
    have hk : k < ls.length := by
      have := hc.1
      exact Nat.le_of_ble_eq_true this
    refine ⟨by rw [← h.1]; exact hk, fun LS' hl => ⟨by rw [List.length_set]; exact h.1, lv_mono hl ?_⟩⟩
    intro q hq
    obtain ⟨w, h1, h2, h3⟩ := am_asc_mem.mp hq
    by_cases hqk : k = q.1
    · rw [← hqk, List.getElem?_set_self hk] at h1
      cases h1
      rw [show q = (k, am_tv ad z v) from Prod.ext hqk.symm h3]
      exact List.mem_cons_self
    · rw [List.getElem?_set_ne hqk] at h1
      refine List.mem_cons_of_mem _ (List.mem_filter.mpr ⟨am_asc_mem.mpr ⟨w, h1, h2, h3⟩, ?_⟩)
      have e1 : (q.1 == k) = false := by simpa using Ne.symm hqk
      rw [e1]
      by_cases e2 : q.1 + 1 = k
      · have := am_nl_cat hc.2 e2 h1
        rw [← am_tv_cat (ad := ad) hz w, ← h3] at this
        simp [this]
      · simp [e2]
theorem am_lv_s2 {ad : Nat → Nat} {z : Value} {ls ls' : List Value} {LS : Array Slot} {n k : Nat} {v : Value} (hz : am_zok z) (h : am_lv ad z ls LS n) (hs : am_s2 ls k v = some ls') : k + 1 < n ∧ ∀ LS' : Array Slot, lv_has LS' n ((k, am_tv ad z v) :: (am_asc ad z ls).filter (fun q => !(q.1 == k) && (!(q.1 == k + 1) && !(q.1 + 1 == k && q.2.category == 2)))) → am_lv ad z ls' LS' n := by
  unfold am_s2 at hs
  cases hc : (Nat.blt (k + 1) ls.length && am_nl ls k) with
  | false => rw [hc] at hs; cases hs
  | true =>
    rw [hc] at hs
    cases hs
    rw [Bool.and_eq_true] at hc
    have hk : k + 1 < ls.length := by
      have := hc.1
      exact Nat.le_of_ble_eq_true this
    refine ⟨by rw [← h.1]; exact hk, fun LS' hl => ⟨by rw [List.length_set, List.length_set]; exact h.1, lv_mono hl ?_⟩⟩
    intro q hq
    obtain ⟨w, h1, h2, h3⟩ := am_asc_mem.mp hq
    by_cases hq1 : k + 1 = q.1
    · rw [← hq1, List.getElem?_set_self (by rw [List.length_set]; exact hk)] at h1
      cases h1
      exact absurd rfl h2
    · rw [List.getElem?_set_ne hq1] at h1
      by_cases hqk : k = q.1
      · rw [← hqk, List.getElem?_set_self (by omega)] at h1
        cases h1
        rw [show q = (k, am_tv ad z v) from Prod.ext hqk.symm h3]
        exact List.mem_cons_self
      · rw [List.getElem?_set_ne hqk] at h1
        refine List.mem_cons_of_mem _ (List.mem_filter.mpr ⟨am_asc_mem.mpr ⟨w, h1, h2, h3⟩, ?_⟩)
        have e1 : (q.1 == k) = false := by simpa using Ne.symm hqk
        have e3 : (q.1 == k + 1) = false := by simpa using Ne.symm hq1
        rw [e1, e3]
        by_cases e2 : q.1 + 1 = k
        · have := am_nl_cat hc.2 e2 h1
          rw [← am_tv_cat (ad := ad) hz w, ← h3] at this
          simp [this]
        · simp [e2]
theorem am_sl1_len (ad : Nat → Nat) {z : Value} (hz : am_zok z) (av : List Value) : (lg_sl (av.map (am_tv ad z))).length = (am_sl1 av).length := by
  unfold lg_sl am_sl1
  induction av with
  | nil => rfl
  | cons v av ih =>
    rw [List.map_cons, List.flatMap_cons, List.flatMap_cons, List.length_append, List.length_append, ih, am_tv_cat hz]
    by_cases h : v.category = 2
    · rw [if_pos h, if_pos h]; rfl
    · rw [if_neg h, if_neg h]; rfl
theorem am_sl1_args (ad : Nat → Nat) {z : Value} (hz : am_zok z) : ∀ (av : List Value) (off i : Nat) (v : Value), (am_sl1 av)[i]? = some v → v ≠ .null → (off + i, am_tv ad z v) ∈ lv_args off (av.map (am_tv ad z)) := by
  intro av
  induction av with
  | nil => intro off i v h; simp [am_sl1] at h
  | cons w av ih =>
    intro off i v h hn
    unfold am_sl1 at h
    rw [List.flatMap_cons] at h
    rw [List.map_cons]
    unfold lv_args
    rw [am_tv_cat hz]
    by_cases hw : w.category = 2
    · rw [if_pos hw] at h ⊢
      match i, h with
      | 0, h => cases h; exact List.mem_cons_self
      | 1, h => cases h; exact absurd rfl hn
      | i + 2, h =>
        have := ih (off + 2) i v h hn
        rw [show off + (i + 2) = off + 2 + i by omega]
        exact List.mem_cons_of_mem _ this
    · rw [if_neg hw] at h ⊢
      match i, h with
      | 0, h => cases h; exact List.mem_cons_self
      | i + 1, h =>
        have := ih (off + 1) i v h hn
        rw [show off + (i + 1) = off + 1 + i by omega]
        exact List.mem_cons_of_mem _ this
theorem am_lv_ent {ad : Nat → Nat} {z : Value} {n : Nat} {av : List Value} (hz : am_zok z) (hn : (am_sl1 av).length ≤ n) : am_lv ad z (am_ent n av) ((lg_sl (av.map (am_tv ad z)) ++ List.replicate (n - (lg_sl (av.map (am_tv ad z))).length) Slot.unset).toArray) n := by
  have h := lv_entry (av.map (am_tv ad z)) (n := n) (by rw [am_sl1_len ad hz]; exact hn)
  refine ⟨by unfold am_ent; rw [List.length_append, List.length_replicate]; omega, lv_mono h ?_⟩
  intro q hq
  obtain ⟨v, h1, h2, h3⟩ := am_asc_mem.mp hq
  unfold am_ent at h1
  by_cases hl : q.1 < (am_sl1 av).length
  · rw [List.getElem?_append_left hl] at h1
    have := am_sl1_args ad hz av 0 q.1 v h1 h2
    rw [Nat.zero_add, ← h3] at this
    exact this
  · rw [List.getElem?_append_right (by omega)] at h1
    rw [List.getElem?_replicate] at h1
    split at h1
    · cases h1; exact absurd rfl h2
    · cases h1
/-! what is never written -/
def am_Z (ad : Nat → Nat) (z : Value) (L : Nat) (xs : Nat → Int32) (A : Nat → Prop) (U : State) (H : Heap) : Prop :=
  (∀ i, i < 9 → va_O "java/lang/String" (ad (6000 + i)) A U H ∧ va_OF "java/lang/String" "coder" "B" (.int 0) (ad (6000 + i)) A U H ∧ va_OF "java/lang/String" "value" "[B" (.ref (ad (6100 + i))) (ad (6000 + i)) A U H ∧ va_T .byte (ad (6100 + i)) (am_sl.getD i 0) (fun j => .int ((am_sb.getD i []).getD j 0)) A U H) ∧
  va_Z "java/lang/String" "COMPACT_STRINGS" "Z" (.int 1) A U H ∧ va_Z "jdk/internal/util/Preconditions" "SIOOBE_FORMATTER" "Ljava/util/function/BiFunction;" z A U H ∧ am_zok z ∧
  (∀ k j, am_as am_ks5 k = some j → ∃ tx, vk_R "StatuteBook$Reader" k tx (ad (6000 + j)) U) ∧ va_X (ad 5000) L xs U H ∧ ad 5000 < H.size ∧ ¬ A (ad 5000) ∧ L < 2 ^ 31 ∧ ∀ (p : Nat) (a : String) (i : Nat) (b n d h : String), lw_tbl[p]? = some (.fieldLinkNest a i b n d h) → va_Nw (.fieldLinkNest a i b n d h) U
theorem am_Z.kept {ad : Nat → Nat} {z : Value} {L : Nat} {xs : Nat → Int32} {A : Nat → Prop} {U : State} {H H1 : Heap} (h : am_Z ad z L xs A U H) (hz : H.size ≤ H1.size) (hq : ∀ a : Nat, a < H.size → ¬ A a → H1[a]? = H[a]?) : am_Z ad z L xs A U H1 := by
  obtain ⟨h1, h2, h3, h4, h5, h6, h7, h8, h9, h10⟩ := h
  exact ⟨fun i hi => ⟨(h1 i hi).1.kept hq, (h1 i hi).2.1.kept hq, (h1 i hi).2.2.1.kept hq, (h1 i hi).2.2.2.kept hq⟩, h2.kept hq, h3.kept hq, h4, h5, h6.kept (hq _ h7 h8), Nat.lt_of_lt_of_le h7 hz, h8, h9, h10⟩
theorem am_Z.narrow {ad : Nat → Nat} {z : Value} {L : Nat} {xs : Nat → Int32} {A B : Nat → Prop} {U : State} {H : Heap} (h : am_Z ad z L xs A U H) (hAB : ∀ q, B q → A q) : am_Z ad z L xs B U H := by
  obtain ⟨h1, h2, h3, h4, h5, h6, h7, h8, h9, h10⟩ := h
  exact ⟨fun i hi => ⟨(h1 i hi).1.narrow hAB, (h1 i hi).2.1.narrow hAB, (h1 i hi).2.2.1.narrow hAB, (h1 i hi).2.2.2.narrow hAB⟩, h2.narrow hAB, h3.narrow hAB, h4, h5, h6, h7, fun q => h8 (hAB _ q), h9, h10⟩
theorem am_Z.warm {ad : Nat → Nat} {z : Value} {L : Nat} {xs : Nat → Int32} {A : Nat → Prop} {s U : State} {H : Heap} (hW : s.WarmedH U.vm) (h : am_Z ad z L xs A s H) : am_Z ad z L xs A U H := by
  obtain ⟨h1, h2, h3, h4, h5, h6, h7, h8, h9, h10⟩ := h
  have hv := hW.alike
  exact ⟨fun i hi => ⟨va_O.moved hv (h1 i hi).1, va_OF.moved hv (h1 i hi).2.1, va_OF.moved hv (h1 i hi).2.2.1, va_T.moved hv (h1 i hi).2.2.2⟩, va_Z.moved hv h2, va_Z.moved hv h3, h4, fun k j hk => by obtain ⟨tx, hr⟩ := h5 k j hk; exact ⟨tx, hr.warm hW⟩, va_X.moved hv h6, h7, h8, h9, fun p a i b n d h q => va_Nw.warmF hW (h10 p a i b n d h q)⟩
theorem am_Z.same {ad : Nat → Nat} {z : Value} {L : Nat} {xs : Nat → Int32} {A : Nat → Prop} {u U : State} {H : Heap} (hv : U.vm = u.vm) (h : am_Z ad z L xs A u H) : am_Z ad z L xs A U H := by
  obtain ⟨h1, h2, h3, h4, h5, h6, h7, h8, h9, h10⟩ := h
  have ha : u.vm.Alike U.vm := by rw [hv]; exact Vm.Alike.refl u.vm
  exact ⟨fun i hi => ⟨va_O.moved ha (h1 i hi).1, va_OF.moved ha (h1 i hi).2.1, va_OF.moved ha (h1 i hi).2.2.1, va_T.moved ha (h1 i hi).2.2.2⟩, va_Z.moved ha h2, va_Z.moved ha h3, h4, fun k j hk => by obtain ⟨tx, hr⟩ := h5 k j hk; exact ⟨tx, vk_R.same hv hr⟩, va_X.moved ha h6, h7, h8, h9, fun p a i b n d h q => va_Nw.same rfl hv.symm (h10 p a i b n d h q)⟩
/-- what is known within a method -/
def am_E (p : Program) (s : State) (m : MethodId) (args : Array Value) (c : Code) (t : am_T) (D : va_G) (cI : ClassId) (ad : Nat → Nat) (z : Value) (A : Nat → Prop) (L : Nat) (xs : Nat → Int32) : Prop :=
  p.tables.exec = Jvm.exec ∧ c.code = am_by t ∧ c.maxLocals = am_mL t ∧ s.vm.findClass (am_cn (am_ow t)) = some m.cls ∧ (∀ w ∈ am_tbl, w.before args s = true) ∧ va_K D am_cl [(cI, .int)] s ∧ am_Z ad z L xs A s s.heap ∧ ∀ q, s.heap.size ≤ q → A q
/-- the picture of a state: cells, what is written, locals, the script -/
def am_R (D : va_G) (cI : ClassId) (ad : Nat → Nat) (z : Value) (A : Nat → Prop) (L : Nat) (xs : Nat → Int32) (s : State) (n : Nat) (H : Heap) (locs : List Loc) (LS : Array Slot) (ls : List Value) (M : am_M) : Prop :=
  va_P D am_cl (am_wd cI ad M) H ∧ va_D A (am_wd cI ad M) ∧ va_S A s.heap H locs ∧ am_lv ad z ls LS n ∧ (∀ j, j < L → M 5000 j = xs j) ∧ M 5001 0 = Int32.ofNat L
end
section
/-! the abstract machine's steps are the machine's: an instruction at a time -/
theorem am_tgo_eq {pc tg : Nat} {off : Int} (h : am_tgo pc off = some tg) : (pc : Int) + off = (tg : Int) := by
  unfold am_tgo at h
  split at h
  · cases h; omega
  · cases h
theorem am_i32_nlt {x y : Int32} : (¬ x < y) ↔ y ≤ x := Int32.not_lt
theorem am_as_ks {k j : Nat} (h : am_as am_ks5 k = some j) : j < 9 := by
  have h1 := am_as_mem h
  have h2 : ∀ q ∈ am_ks5, q.2 < 9 := by decide +kernel
  exact h2 _ h1
theorem am_fl_spec {ow k ci j : Nat} (h : am_fl ow k = some (ci, j)) : ∃ (r : vw_C) (nest pw : Nat), am_cl[ci]? = some r ∧ j < r.2.2 ∧ (nest = 0 → Cond.fieldLink (am_cn ow) k (r.2.1 j).1 (r.2.1 j).2.1 (r.2.1 j).2.2.1 ∈ am_tbl) ∧ (nest ≠ 0 → lw_tbl[pw]? = some (Cond.fieldLinkNest (am_cn ow) k (r.2.1 j).1 (r.2.1 j).2.1 (r.2.1 j).2.2.1 "StatuteBook")) := by
  unfold am_fl at h
  split at h
  · rename_i q hq
    cases h
    have hw := (List.all_eq_true.mp (am_f_all ow)) _ (am_as_mem hq)
    unfold am_fok at hw
    split at hw
    · rename_i r hr
      rw [Bool.and_eq_true] at hw
      have h1 : q.2.1 < r.2.2 := Nat.le_of_ble_eq_true hw.1
      have h2 := of_decide_eq_true hw.2
      refine ⟨r, q.2.2.1, q.2.2.2, hr, h1, fun h0 => ?_, fun h0 => ?_⟩
      · rw [h0] at h2
        exact am_mem h2 rfl
      · have : Nat.beq q.2.2.1 0 = false := by
          cases hb : Nat.beq q.2.2.1 0 with
          | false => rfl
          | true => exact absurd (Nat.eq_of_beq_eq_true hb) h0
        rw [this] at h2
        exact h2
    · cases hw
  · cases h
theorem am_LL_at {a ci : Nat} {fs : List Nat} (h : am_LL[a]? = some (.inr (ci, fs))) : ∃ r, am_cl[ci]? = some r ∧ fs.length = r.2.2 ∧ fs.length < 50 ∧ ∀ k f, fs[k]? = some f → am_fdok r k f = true ∧ f ≠ 7003 := by
  have h0 := am_LL_ok
  unfold am_LLok at h0
  have h1 := (List.all_eq_true.mp h0) _ (List.mem_of_getElem? h)
  dsimp only at h1
  split at h1
  · rename_i r hr
    rw [Bool.and_eq_true, Bool.and_eq_true] at h1
    have hlen := Nat.eq_of_beq_eq_true h1.1.1
    refine ⟨r, hr, hlen, Nat.le_of_ble_eq_true h1.1.2, fun k f hf => ?_⟩
    have hk : k < fs.length := (List.getElem?_eq_some_iff.mp hf).1
    have h2 := (List.all_eq_true.mp h1.2) k (List.mem_range.mpr hk)
    rw [hf] at h2
    dsimp only at h2
    rw [Bool.and_eq_true] at h2
    refine ⟨h2.1, fun q => ?_⟩
    subst q
    exact absurd h2.2 (by decide)
  · cases h1
theorem am_fld {a ci : Nat} {fs : List Nat} {j f : Nat} (h : am_LL[a]? = some (.inr (ci, fs))) (hf : fs[j]? = some f) : f ≠ 7003 := by
  obtain ⟨r, -, -, -, h4⟩ := am_LL_at h
  exact (h4 j f hf).2
theorem am_fw_tv {ad : Nat → Nat} {z : Value} {M : am_M} {a j f : Nat} (h : f ≠ 7003) : am_fw ad M a j f = am_tv ad z (am_fv M a j f) := by
  match f, h with
  | 0, _ => rfl
  | 1, _ => rfl
  | 2, _ => rfl
  | r + 3, h => exact (am_tv_ref (by omega)).symm
theorem am_fld2 {a ci : Nat} {fs : List Nat} {j f : Nat} {Cn : String} {T : u_T} {N : Nat} (h : am_LL[a]? = some (.inr (ci, fs))) (hf : fs[j]? = some f) (hcl : am_cl[ci]? = some (Cn, T, N)) : match f with
    | 0 => (T j).2.2.1 = "I" ∧ (T j).2.2.2 = false
    | 1 => (T j).2.2.1 = "J" ∧ (T j).2.2.2 = false
    | 2 => (T j).2.2.1 = "Z" ∧ (T j).2.2.2 = false
    | _ => True := by
  obtain ⟨r, h1, -, -, h4⟩ := am_LL_at h
  rw [hcl] at h1
  cases h1
  have h5 := (h4 j f hf).1
  match f, h5 with
  | 0, h5 => simpa [am_fdok] using h5
  | 1, h5 => simpa [am_fdok] using h5
  | 2, h5 => simpa [am_fdok] using h5
  | r + 3, h5 => trivial
theorem am_short {a ci : Nat} {fs : List Nat} {j f : Nat} (h : am_LL[a]? = some (.inr (ci, fs))) (hf : fs[j]? = some f) : j < 50 := by
  obtain ⟨r, -, -, h3, -⟩ := am_LL_at h
  have := (List.getElem?_eq_some_iff.mp hf).1
  omega
theorem am_kinds {a ci : Nat} {fs : List Nat} {j f : Nat} (h : am_LL[a]? = some (.inr (ci, fs))) (hf : fs[j]? = some f) : j < 50 := am_short h hf
theorem am_fw_up {ad : Nat → Nat} {M : am_M} {a i j f : Nat} {x : Int32} (hi : i ≠ j) (hs : i < 50) (_ : True = True) (hj : j < 50 := by assumption) : am_fw ad (am_up M a j x) a i f = am_fw ad M a i f := by
  match f with
  | 0 => show Value.int _ = Value.int _; rw [am_up_ne _ _ _ _ (by omega)]
  | 1 => show Value.long _ = Value.long _; rw [am_up_ne _ _ _ _ (by omega), am_up_ne _ _ _ _ (by omega)]
  | 2 => show Value.int _ = Value.int _; rw [am_up_ne _ _ _ _ (by omega)]
  | r + 3 => rfl
theorem am_fw_up2 {ad : Nat → Nat} {M : am_M} {a i j f : Nat} {x y : Int32} (hi : i ≠ j) (hs : i < 50) (hj : j < 50) : am_fw ad (am_up (am_up M a j x) a (j + 100) y) a i f = am_fw ad M a i f := by
  match f with
  | 0 => show Value.int _ = Value.int _; rw [am_up_ne _ _ _ _ (by omega), am_up_ne _ _ _ _ (by omega)]
  | 1 => show Value.long _ = Value.long _; rw [am_up_ne _ _ _ _ (by omega), am_up_ne _ _ _ _ (by omega), am_up_ne _ _ _ _ (by omega), am_up_ne _ _ _ _ (by omega)]
  | 2 => show Value.int _ = Value.int _; rw [am_up_ne _ _ _ _ (by omega), am_up_ne _ _ _ _ (by omega)]
  | r + 3 => rfl
theorem am_set_fw {ad : Nat → Nat} {M M' : am_M} {a j f0 : Nat} {fs : List Nat} {v : Value} (hf : fs[j]? = some f0) (hv : v = am_fw ad M' a j f0) (ho : ∀ i f, i ≠ j → fs[i]? = some f → am_fw ad M' a i f = am_fw ad M a i f) : (fs.mapIdx fun j f => am_fw ad M a j f).set j v = fs.mapIdx fun j f => am_fw ad M' a j f := by
  have hl : j < fs.length := (List.getElem?_eq_some_iff.mp hf).1
  apply List.ext_getElem?
  intro i
  rw [List.getElem?_set, List.getElem?_mapIdx, List.getElem?_mapIdx]
  by_cases hi : j = i
  · subst hi
    rw [if_pos rfl, if_pos (by rw [List.length_mapIdx]; exact hl), hf, hv]
    rfl
  · rw [if_neg hi]
    cases h9 : fs[i]? with
    | none => rfl
    | some f =>
      show some (am_fw ad M a i f) = some (am_fw ad M' a i f)
      rw [ho i f (Ne.symm hi) h9]
section AMW
variable {p : Program} {l : Launch} {e : Env} {R : Room} {s : State} {m : MethodId} {args : Array Value} {below : List Frame} {meth : Method} {c : Code} {cells slots : Nat} {Q : State → Prop}
variable {t : am_T} {D : va_G} {cI : ClassId} {ad : Nat → Nat} {z : Value} {A : Nat → Prop} {L : Nat} {xs : Nat → Int32}
set_option maxHeartbeats 40000000 in
theorem am_ex_W (E : am_E p s m args c t D cI ad z A L xs) {i : Instr} {n pc : Nat} {ls st ls' st' : List Value} {M M' : am_M} {pc' : Nat}
    (hd : decode (am_by t) pc = .ok (i, n)) (hn : am_lnok i n = true) (hps : am_psok i = true) (h : am_ex (am_ow t) i n pc ls st M = some (pc', ls', st', M'))
    {H : Heap} {locs : List Loc} {LS : Array Slot} (hR : am_R D cI ad z A L xs s (am_mL t) H locs LS ls M)
    (kk : ∀ (H' : Heap) (locs' : List Loc) (LS' : Array Slot), am_R D cI ad z A L xs s (am_mL t) H' locs' LS' ls' M' → W p l e R s m args below meth c H' locs' cells slots Q (F0 m pc' LS' (st'.map (am_tv ad z)))) :
    W p l e R s m args below meth c H locs cells slots Q (F0 m pc LS (st.map (am_tv ad z))) := by
  obtain ⟨hx, hb, hml, hown, hts, hK, hZ, hA⟩ := E
  have hz := hZ.2.2.2.1
  cases i
  case iconst v =>
    have hn : n = 1 := Nat.eq_of_beq_eq_true hn
    subst hn
    dsimp only [am_ex] at h
    cases h
    exact lv_iconst hx hb hd rfl (kk _ _ _ hR)
  case bipush v =>
    have hn : n = 2 := Nat.eq_of_beq_eq_true hn
    subst hn
    dsimp only [am_ex] at h
    cases h
    exact lv_bipush hx hb hd rfl (kk _ _ _ hR)
  case sipush v =>
    have hn : n = 3 := Nat.eq_of_beq_eq_true hn
    subst hn
    dsimp only [am_ex] at h
    cases h
    exact lv_sipush hx hb hd rfl (kk _ _ _ hR)
  case lconst v =>
    have hn : n = 1 := Nat.eq_of_beq_eq_true hn
    subst hn
    dsimp only [am_ex] at h
    cases h
    exact lv_lconst hx hb hd rfl (kk _ _ _ hR)
  case ldc k =>
    have hn : n = 2 := Nat.eq_of_beq_eq_true hn
    subst hn
    dsimp only [am_ex] at h
    split at h
    · rename_i q hq
      cases h
      have hw := (List.all_eq_true.mp (am_ki_all (am_ow t))) _ (am_as_mem hq)
      exact lv_ldc hx hb hown (hts _ (am_mem (of_decide_eq_true hw) rfl)) hd (kk _ _ _ hR)
    · cases ho : Nat.beq (am_ow t) 5 with
      | false => rw [ho] at h; cases h
      | true =>
        rw [ho] at h
        dsimp only [cond_true] at h
        split at h
        · rename_i j hj
          cases h
          obtain ⟨tx, hr⟩ := hZ.2.2.2.2.1 k j hj
          have hj9 := am_as_ks hj
          have ho := Nat.eq_of_beq_eq_true ho
          rw [ho] at hown
          refine va_ldcS hx hb hown hr hd ?_
          have := kk _ _ _ hR
          rw [List.map_cons, am_tv_ref (by omega)] at this
          exact this
        · cases h
  case ldc_w k =>
    have hn : n = 3 := Nat.eq_of_beq_eq_true hn
    subst hn
    dsimp only [am_ex] at h
    split at h
    · rename_i q hq
      cases h
      have hw := (List.all_eq_true.mp (am_ki_all (am_ow t))) _ (am_as_mem hq)
      exact lv_ldcw hx hb hown (hts _ (am_mem (of_decide_eq_true hw) rfl)) hd (kk _ _ _ hR)
    · cases h
  case ldc2_w k =>
    have hn : n = 3 := Nat.eq_of_beq_eq_true hn
    subst hn
    dsimp only [am_ex] at h
    split at h
    · rename_i q hq
      cases h
      have hw := (List.all_eq_true.mp (am_kl_all (am_ow t))) _ (am_as_mem hq)
      exact lv_ldc2 hx hb hown (hts _ (am_mem (of_decide_eq_true hw) rfl)) hd (kk _ _ _ hR)
    · cases h
  case iload k =>
    have hn : n = 2 := Nat.eq_of_beq_eq_true hn
    subst hn
    dsimp only [am_ex] at h
    split at h
    · rename_i x hx0
      cases h
      exact lv_iload hx hb hd (am_lv_ld hR.2.2.2.1 hx0) (kk _ _ _ hR)
    · cases h
  case iload_n k =>
    have hn : n = 1 := Nat.eq_of_beq_eq_true hn
    subst hn
    dsimp only [am_ex] at h
    split at h
    · rename_i x hx0
      cases h
      exact lv_iload_n hx hb hd rfl (am_lv_ld hR.2.2.2.1 hx0) (kk _ _ _ hR)
    · cases h
  case lload k =>
    have hn : n = 2 := Nat.eq_of_beq_eq_true hn
    subst hn
    dsimp only [am_ex] at h
    split at h
    · rename_i x hx0
      cases h
      exact lv_lload hx hb hd (am_lv_ld hR.2.2.2.1 hx0) (kk _ _ _ hR)
    · cases h
  case lload_n k =>
    have hn : n = 1 := Nat.eq_of_beq_eq_true hn
    subst hn
    dsimp only [am_ex] at h
    split at h
    · rename_i x hx0
      cases h
      exact lv_lload_n hx hb hd rfl (am_lv_ld hR.2.2.2.1 hx0) (kk _ _ _ hR)
    · cases h
  case aload k =>
    have hn : n = 2 := Nat.eq_of_beq_eq_true hn
    subst hn
    dsimp only [am_ex] at h
    split at h
    · rename_i x hx0
      cases h7 : Nat.beq x 7000 with
      | true => rw [h7] at h; cases h
      | false =>
        rw [h7] at h
        cases h
        have h7 : x ≠ 7000 := Nat.ne_of_beq_eq_false h7
        have hl := am_lv_ld hR.2.2.2.1 hx0
        rw [am_tv_ref h7] at hl
        refine lv_aload hx hb hd hl ?_
        have := kk _ _ _ hR
        rw [List.map_cons, am_tv_ref h7] at this
        exact this
    · cases h
  case aload_n k =>
    have hn : n = 1 := Nat.eq_of_beq_eq_true hn
    subst hn
    dsimp only [am_ex] at h
    split at h
    · rename_i x hx0
      cases h7 : Nat.beq x 7000 with
      | true => rw [h7] at h; cases h
      | false =>
        rw [h7] at h
        cases h
        have h7 : x ≠ 7000 := Nat.ne_of_beq_eq_false h7
        have hl := am_lv_ld hR.2.2.2.1 hx0
        rw [am_tv_ref h7] at hl
        refine lv_aload_n hx hb hd rfl hl ?_
        have := kk _ _ _ hR
        rw [List.map_cons, am_tv_ref h7] at this
        exact this
    · cases h
  case istore k =>
    have hn : n = 2 := Nat.eq_of_beq_eq_true hn
    subst hn
    dsimp only [am_ex] at h
    split at h
    · rename_i x st0
      cases hs : am_s1 ls k (.int x) with
      | none => rw [hs] at h; cases h
      | some l1 =>
        rw [hs] at h
        cases h
        obtain ⟨h1, h2⟩ := am_lv_s1 hz hR.2.2.2.1 hs
        exact lv_istore hx hb hd hR.2.2.2.1.2 h1 rfl (fun LS' hl => kk _ _ _ ⟨hR.1, hR.2.1, hR.2.2.1, h2 LS' hl, hR.2.2.2.2⟩)
    · cases h
  case istore_n k =>
    have hn : n = 1 := Nat.eq_of_beq_eq_true hn
    subst hn
    dsimp only [am_ex] at h
    split at h
    · rename_i x st0
      cases hs : am_s1 ls k.val (.int x) with
      | none => rw [hs] at h; cases h
      | some l1 =>
        rw [hs] at h
        cases h
        obtain ⟨h1, h2⟩ := am_lv_s1 hz hR.2.2.2.1 hs
        exact lv_istore_n hx hb hd rfl hR.2.2.2.1.2 h1 rfl (fun LS' hl => kk _ _ _ ⟨hR.1, hR.2.1, hR.2.2.1, h2 LS' hl, hR.2.2.2.2⟩)
    · cases h
  case lstore k =>
    have hn : n = 2 := Nat.eq_of_beq_eq_true hn
    subst hn
    dsimp only [am_ex] at h
    split at h
    · rename_i x st0
      cases hs : am_s2 ls k (.long x) with
      | none => rw [hs] at h; cases h
      | some l1 =>
        rw [hs] at h
        cases h
        obtain ⟨h1, h2⟩ := am_lv_s2 hz hR.2.2.2.1 hs
        exact lv_lstore hx hb hd hR.2.2.2.1.2 h1 rfl (fun LS' hl => kk _ _ _ ⟨hR.1, hR.2.1, hR.2.2.1, h2 LS' hl, hR.2.2.2.2⟩)
    · cases h
  case lstore_n k =>
    have hn : n = 1 := Nat.eq_of_beq_eq_true hn
    subst hn
    dsimp only [am_ex] at h
    split at h
    · rename_i x st0
      cases hs : am_s2 ls k.val (.long x) with
      | none => rw [hs] at h; cases h
      | some l1 =>
        rw [hs] at h
        cases h
        obtain ⟨h1, h2⟩ := am_lv_s2 hz hR.2.2.2.1 hs
        exact lv_lstore_n hx hb hd rfl hR.2.2.2.1.2 h1 rfl (fun LS' hl => kk _ _ _ ⟨hR.1, hR.2.1, hR.2.2.1, h2 LS' hl, hR.2.2.2.2⟩)
    · cases h
  case iinc k v =>
    have hn : n = 3 := Nat.eq_of_beq_eq_true hn
    subst hn
    dsimp only [am_ex] at h
    split at h
    · rename_i x hx0
      cases hs : am_s1 ls k (.int (x + Int32.ofInt v)) with
      | none => rw [hs] at h; cases h
      | some l1 =>
        rw [hs] at h
        cases h
        obtain ⟨h1, h2⟩ := am_lv_s1 hz hR.2.2.2.1 hs
        have hm : (k, Value.int x) ∈ am_asc ad z ls := by
          unfold am_ld at hx0
          split at hx0
          · cases hx0
          · exact am_asc_mem.mpr ⟨.int x, hx0, (fun q => by cases q), rfl⟩
        obtain ⟨j, hj⟩ := List.getElem?_of_mem hm
        exact lv_iinc hx hb hd hR.2.2.2.1.2 hj rfl h1 rfl (fun LS' hl => kk _ _ _ ⟨hR.1, hR.2.1, hR.2.2.1, h2 LS' hl, hR.2.2.2.2⟩)
    · cases h
  case iadd =>
    have hn : n = 1 := Nat.eq_of_beq_eq_true hn
    subst hn
    dsimp only [am_ex] at h
    split at h
    · cases h
      exact lv_iadd hx hb hd (kk _ _ _ hR)
    · cases h
  case isub =>
    have hn : n = 1 := Nat.eq_of_beq_eq_true hn
    subst hn
    dsimp only [am_ex] at h
    split at h
    · cases h
      exact lv_isub hx hb hd (kk _ _ _ hR)
    · cases h
  case imul =>
    have hn : n = 1 := Nat.eq_of_beq_eq_true hn
    subst hn
    dsimp only [am_ex] at h
    split at h
    · cases h
      exact lv_imul hx hb hd (kk _ _ _ hR)
    · cases h
  case iand =>
    have hn : n = 1 := Nat.eq_of_beq_eq_true hn
    subst hn
    dsimp only [am_ex] at h
    split at h
    · cases h
      exact lv_iand hx hb hd (kk _ _ _ hR)
    · cases h
  case ior =>
    have hn : n = 1 := Nat.eq_of_beq_eq_true hn
    subst hn
    dsimp only [am_ex] at h
    split at h
    · cases h
      exact lv_ior hx hb hd (kk _ _ _ hR)
    · cases h
  case ixor =>
    have hn : n = 1 := Nat.eq_of_beq_eq_true hn
    subst hn
    dsimp only [am_ex] at h
    split at h
    · cases h
      exact lv_ixor hx hb hd (kk _ _ _ hR)
    · cases h
  case ishl =>
    have hn : n = 1 := Nat.eq_of_beq_eq_true hn
    subst hn
    dsimp only [am_ex] at h
    split at h
    · cases h
      exact lv_ishl hx hb hd (kk _ _ _ hR)
    · cases h
  case ishr =>
    have hn : n = 1 := Nat.eq_of_beq_eq_true hn
    subst hn
    dsimp only [am_ex] at h
    split at h
    · cases h
      exact lv_ishr hx hb hd (kk _ _ _ hR)
    · cases h
  case iushr =>
    have hn : n = 1 := Nat.eq_of_beq_eq_true hn
    subst hn
    dsimp only [am_ex] at h
    split at h
    · cases h
      exact lv_iushr hx hb hd rfl (kk _ _ _ hR)
    · cases h
  case ladd =>
    have hn : n = 1 := Nat.eq_of_beq_eq_true hn
    subst hn
    dsimp only [am_ex] at h
    split at h
    · cases h
      exact lv_ladd hx hb hd (kk _ _ _ hR)
    · cases h
  case lsub =>
    have hn : n = 1 := Nat.eq_of_beq_eq_true hn
    subst hn
    dsimp only [am_ex] at h
    split at h
    · cases h
      exact lv_lsub hx hb hd (kk _ _ _ hR)
    · cases h
  case lmul =>
    have hn : n = 1 := Nat.eq_of_beq_eq_true hn
    subst hn
    dsimp only [am_ex] at h
    split at h
    · cases h
      exact lv_lmul hx hb hd (kk _ _ _ hR)
    · cases h
  case lcmp =>
    have hn : n = 1 := Nat.eq_of_beq_eq_true hn
    subst hn
    dsimp only [am_ex] at h
    split at h
    · cases h
      exact W.lcmp hx hb hd (kk _ _ _ hR)
    · cases h
  case i2l =>
    have hn : n = 1 := Nat.eq_of_beq_eq_true hn
    subst hn
    dsimp only [am_ex] at h
    split at h
    · cases h
      exact lv_i2l hx hb hd rfl (kk _ _ _ hR)
    · cases h
  case i2c =>
    have hn : n = 1 := Nat.eq_of_beq_eq_true hn
    subst hn
    dsimp only [am_ex] at h
    split at h
    · cases h
      exact lv_i2c hx hb hd rfl (kk _ _ _ hR)
    · cases h
  case dup2 =>
    have hn : n = 1 := Nat.eq_of_beq_eq_true hn
    subst hn
    dsimp only [am_ex] at h
    split at h
    · cases h
      exact lv_dup2_11 hx hb hd rfl (am_tv_cat hz (.ref _)) (kk _ _ _ hR)
    · cases h
  case pop =>
    have hn : n = 1 := Nat.eq_of_beq_eq_true hn
    subst hn
    dsimp only [am_ex] at h
    split at h
    · cases h
      exact lv_pop hx hb hd rfl (kk _ _ _ hR)
    · cases h
  case dup =>
    have hn : n = 1 := Nat.eq_of_beq_eq_true hn
    subst hn
    dsimp only [am_ex] at h
    split at h
    · cases h
      exact lv_dup hx hb hd rfl (kk _ _ _ hR)
    · cases h
      exact lv_dup hx hb hd (am_tv_cat hz (.ref _)) (kk _ _ _ hR)
    · cases h
  case idiv =>
    have hn : n = 1 := Nat.eq_of_beq_eq_true hn
    subst hn
    dsimp only [am_ex] at h
    split at h
    · rename_i y x st0
      by_cases hy : y = 0
      · rw [if_pos hy] at h; cases h
      · rw [if_neg hy] at h
        cases h
        exact lv_idiv hx hb hd hy (kk _ _ _ hR)
    · cases h
  case irem =>
    have hn : n = 1 := Nat.eq_of_beq_eq_true hn
    subst hn
    dsimp only [am_ex] at h
    split at h
    · rename_i y x st0
      by_cases hy : y = 0
      · rw [if_pos hy] at h; cases h
      · rw [if_neg hy] at h
        cases h
        exact lv_irem hx hb hd hy (kk _ _ _ hR)
    · cases h
  case goto off =>
    have hn : n = 3 := Nat.eq_of_beq_eq_true hn
    subst hn
    dsimp only [am_ex] at h
    split at h
    · rename_i tg htg
      cases h
      exact lv_goto hx hb hd (am_tgo_eq htg) (kk _ _ _ hR)
    · cases h
  case ifCond co off =>
    have hn : n = 3 := Nat.eq_of_beq_eq_true hn
    subst hn
    dsimp only [am_ex] at h
    split at h
    · rename_i x st0
      split at h
      · rename_i tg htg
        cases h
        have ht := am_tgo_eq htg
        have kk0 := kk _ _ _ hR
        cases co with
        | eq => exact lv_if_eq hx hb hd ht (fun hc => by
            rwa [show am_br .eq x 0 tg (pc + 3) = tg from if_pos hc] at kk0) (fun hc => by
            rwa [show am_br .eq x 0 tg (pc + 3) = pc + 3 from if_neg hc] at kk0)
        | ne => exact lv_if_ne hx hb hd ht (fun hc => by
            rwa [show am_br .ne x 0 tg (pc + 3) = tg from if_neg hc] at kk0) (fun hc => by
            rwa [show am_br .ne x 0 tg (pc + 3) = pc + 3 from if_pos hc] at kk0)
        | lt => exact lv_if_lt hx hb hd ht (fun hc => by
            rwa [show am_br .lt x 0 tg (pc + 3) = tg from if_pos hc] at kk0) (fun hc => by
            rwa [show am_br .lt x 0 tg (pc + 3) = pc + 3 from if_neg hc] at kk0)
        | ge => exact lv_if_ge hx hb hd ht (fun hc => by
            rwa [show am_br .ge x 0 tg (pc + 3) = tg from if_neg (Int32.not_lt.mpr hc)] at kk0) (fun hc => by
            rwa [show am_br .ge x 0 tg (pc + 3) = pc + 3 from if_pos (Int32.not_le.mp hc)] at kk0)
        | gt => exact lv_if_gt hx hb hd ht (fun hc => by
            rwa [show am_br .gt x 0 tg (pc + 3) = tg from if_pos hc] at kk0) (fun hc => by
            rwa [show am_br .gt x 0 tg (pc + 3) = pc + 3 from if_neg hc] at kk0)
        | le => exact lv_if_le hx hb hd ht (fun hc => by
            rwa [show am_br .le x 0 tg (pc + 3) = tg from if_neg (Int32.not_lt.mpr hc)] at kk0) (fun hc => by
            rwa [show am_br .le x 0 tg (pc + 3) = pc + 3 from if_pos (Int32.not_le.mp hc)] at kk0)
      · cases h
    · cases h
  case if_icmp co off =>
    have hn : n = 3 := Nat.eq_of_beq_eq_true hn
    subst hn
    dsimp only [am_ex] at h
    split at h
    · rename_i y x st0
      split at h
      · rename_i tg htg
        cases h
        have ht := am_tgo_eq htg
        have kk0 := kk _ _ _ hR
        cases co with
        | eq => exact lv_icmp_eq hx hb hd ht (fun hc => by
            rwa [show am_br .eq x y tg (pc + 3) = tg from if_pos hc] at kk0) (fun hc => by
            rwa [show am_br .eq x y tg (pc + 3) = pc + 3 from if_neg hc] at kk0)
        | ne => exact lv_icmp_ne hx hb hd ht (fun hc => by
            rwa [show am_br .ne x y tg (pc + 3) = tg from if_neg hc] at kk0) (fun hc => by
            rwa [show am_br .ne x y tg (pc + 3) = pc + 3 from if_pos hc] at kk0)
        | lt => exact lv_icmp_lt hx hb hd ht (fun hc => by
            rwa [show am_br .lt x y tg (pc + 3) = tg from if_pos hc] at kk0) (fun hc => by
            rwa [show am_br .lt x y tg (pc + 3) = pc + 3 from if_neg hc] at kk0)
        | ge => exact lv_icmp_ge hx hb hd ht (fun hc => by
            rwa [show am_br .ge x y tg (pc + 3) = tg from if_neg (Int32.not_lt.mpr hc)] at kk0) (fun hc => by
            rwa [show am_br .ge x y tg (pc + 3) = pc + 3 from if_pos (Int32.not_le.mp hc)] at kk0)
        | gt => exact lv_icmp_gt hx hb hd ht (fun hc => by
            rwa [show am_br .gt x y tg (pc + 3) = tg from if_pos hc] at kk0) (fun hc => by
            rwa [show am_br .gt x y tg (pc + 3) = pc + 3 from if_neg hc] at kk0)
        | le => exact lv_icmp_le hx hb hd ht (fun hc => by
            rwa [show am_br .le x y tg (pc + 3) = tg from if_neg (Int32.not_lt.mpr hc)] at kk0) (fun hc => by
            rwa [show am_br .le x y tg (pc + 3) = pc + 3 from if_pos (Int32.not_le.mp hc)] at kk0)
      · cases h
    · cases h
  case tableswitch d lo hi os =>
    dsimp only [am_ex] at h
    split at h
    · rename_i x st0
      split at h
      · rename_i tg htg
        cases h
        have ht := am_tgo_eq htg
        have kk0 := kk _ _ _ hR
        have hps : (os.size : Int) = hi - lo + 1 := of_decide_eq_true hps
        unfold am_sw at ht
        by_cases h1 : x.toInt < lo
        · rw [if_pos h1] at ht
          exact lv_tableOut hx hb hd (Or.inl h1) ht kk0
        · rw [if_neg h1] at ht
          by_cases h2 : hi < x.toInt
          · rw [if_pos h2] at ht
            exact lv_tableOut hx hb hd (Or.inr h2) ht kk0
          · rw [if_neg h2] at ht
            have hl : (x.toInt - lo).toNat < os.size := by omega
            rw [Array.getElem?_eq_getElem hl] at ht
            exact lv_tableIn hx hb hd h1 h2 (Array.getElem?_eq_getElem hl) ht kk0
      · cases h
    · cases h
  case lookupswitch d ps =>
    dsimp only [am_ex] at h
    split at h
    · rename_i x st0
      split at h
      · rename_i tg htg
        cases h
        exact lv_lookup hx hb hd hps rfl (am_tgo_eq htg) (kk _ _ _ hR)
      · cases h
    · cases h
  case getstatic k =>
    have hn : n = 3 := Nat.eq_of_beq_eq_true hn
    subst hn
    dsimp only [am_ex] at h
    split at h
    · rename_i v hv
      cases h
      unfold am_gs at hv
      cases ho : Nat.beq (am_ow t) 14 with
      | false => rw [ho] at hv; cases hv
      | true =>
        rw [ho] at hv
        have ho := Nat.eq_of_beq_eq_true ho
        rw [ho] at hown
        dsimp only [cond_true] at hv
        cases h38 : Nat.beq k 38 with
        | true =>
          rw [h38] at hv
          cases hv
          have h38 := Nat.eq_of_beq_eq_true h38
          subst h38
          exact va_gets hx hb hZ.2.1 hR.2.2.1 hown (hts _ am_w38) (fun _ h => h) hd (kk _ _ _ hR)
        | false =>
          rw [h38] at hv
          dsimp only [cond_false] at hv
          cases h10 : Nat.beq k 1053 with
          | false => rw [h10] at hv; cases hv
          | true =>
            rw [h10] at hv
            cases hv
            have h10 := Nat.eq_of_beq_eq_true h10
            subst h10
            exact va_gets hx hb hZ.2.2.1 hR.2.2.1 hown (hts _ am_w1053) (fun _ h => h) hd (kk _ _ _ hR)
    · cases h
  case getfield k =>
    have hn : n = 3 := Nat.eq_of_beq_eq_true hn
    subst hn
    dsimp only [am_ex] at h
    split at h
    · rename_i a st0
      obtain ⟨a, rfl⟩ : ∃ b : Nat, b = a := ⟨a, rfl⟩
      split at h
      · rename_i v hv
        cases h
        unfold am_gf at hv
        split at hv
        · rename_i ci j hfl
          split at hv
          · rename_i cj fs hLL
            cases hbq : Nat.beq ci cj with
            | false => rw [hbq] at hv; cases hv
            | true =>
              rw [hbq] at hv
              dsimp only [cond_true] at hv
              have hbq := Nat.eq_of_beq_eq_true hbq
              subst hbq
              split at hv
              · rename_i f hf
                cases hv
                obtain ⟨r, nest, pw, hcl, hk, hw, hw'⟩ := am_fl_spec hfl
                have ha : a ≠ 7000 := by have := am_lt hLL; omega
                have he : (am_wd cI ad M)[a]? = some (ad a, .inr (ci, fs.mapIdx fun j f => am_fw ad M a j f)) := by rw [am_wd_get, hLL]; rfl
                have hv9 : (fs.mapIdx fun j f => am_fw ad M a j f)[j]? = some (am_tv ad z (am_fv M a j f)) := by
                  rw [List.getElem?_mapIdx, hf, Option.map_some, am_fw_tv (am_fld hLL hf)]
                have kk0 := kk _ _ _ hR
                rw [List.map_cons, am_tv_ref ha]
                obtain ⟨Cn, T, N⟩ := r
                cases nest with
                | zero => exact va_get hx hb hts (am_cls ci _ hcl).2.2 hown hK hR.1 a he hcl j hk (hts _ (hw rfl)) (fun _ h => h) hv9 hd kk0
                | succ q => exact va_getN hx hb hts (am_cls ci _ hcl).2.2 hown hK hR.1 a he hcl j hk (va_Nw.use rfl (hZ.2.2.2.2.2.2.2.2.2 _ _ _ _ _ _ _ (hw' (by omega)))) (fun _ h => h) hv9 hd kk0
              · cases hv
          · cases hv
        · unfold am_sf at hv
          cases ho : (Nat.beq (am_ow t) 14 && Nat.ble 6000 a && Nat.blt a 6009) with
          | false => rw [ho] at hv; cases hv
          | true =>
            rw [ho] at hv
            rw [Bool.and_eq_true, Bool.and_eq_true] at ho
            obtain ⟨⟨ho, ha1⟩, ha2⟩ := ho
            have ho := Nat.eq_of_beq_eq_true ho
            rw [ho] at hown
            have ha1 : 6000 ≤ a := Nat.le_of_ble_eq_true ha1
            have ha2 : a < 6009 := Nat.le_of_ble_eq_true ha2
            obtain ⟨i, rfl⟩ : ∃ i, a = 6000 + i := ⟨a - 6000, by omega⟩
            have hZi := hZ.1 i (by omega)
            dsimp only [cond_true] at hv
            rw [List.map_cons, am_tv_ref (by omega)]
            have kk0 := kk _ _ _ hR
            cases h9 : Nat.beq k 9 with
            | true =>
              rw [h9] at hv
              cases hv
              have h9 := Nat.eq_of_beq_eq_true h9
              subst h9
              rw [List.map_cons, am_tv_ref (by omega), show 6000 + i + 100 = 6100 + i by omega] at kk0
              exact vk_getf hx hb hZi.2.2.1 hR.2.2.1 hown (hts _ am_w9) (fun _ h => h) hd kk0
            | false =>
              rw [h9] at hv
              dsimp only [cond_false] at hv
              cases h15 : Nat.beq k 15 with
              | false => rw [h15] at hv; cases hv
              | true =>
                rw [h15] at hv
                cases hv
                have h15 := Nat.eq_of_beq_eq_true h15
                subst h15
                exact vk_getf hx hb hZi.2.1 hR.2.2.1 hown (hts _ am_w15) (fun _ h => h) hd kk0
      · cases h
    · cases h
  case putfield k =>
    have hn : n = 3 := Nat.eq_of_beq_eq_true hn
    subst hn
    dsimp only [am_ex] at h
    split at h
    · rename_i v a st0
      obtain ⟨a, rfl⟩ : ∃ b : Nat, b = a := ⟨a, rfl⟩
      split at h
      · rename_i M2 hv
        cases h
        unfold am_pf at hv
        split at hv
        · rename_i ci j hfl
          split at hv
          · rename_i cj fs hLL
            cases hbq : Nat.beq ci cj with
            | false => rw [hbq] at hv; cases hv
            | true =>
              rw [hbq] at hv
              dsimp only [cond_true] at hv
              have hbq := Nat.eq_of_beq_eq_true hbq
              subst hbq
              obtain ⟨r, nest, pw, hcl, hk, hw, hw'⟩ := am_fl_spec hfl
              have ha80 := am_lt hLL
              have ha : a ≠ 7000 := by omega
              have he : (am_wd cI ad M)[a]? = some (ad a, .inr (ci, fs.mapIdx fun j f => am_fw ad M a j f)) := by rw [am_wd_get, hLL]; rfl
              rw [List.map_cons, List.map_cons, am_tv_ref ha]
              obtain ⟨Cn, T, N⟩ := r
              split at hv
              · rename_i x hf
                have hjl : j < fs.length := (List.getElem?_eq_some_iff.mp hf).1
                cases hv
                have hfd := am_fld2 hLL hf hcl
                have hnf : (T j).2.2.2 = false := hfd.2
                have hty : parseFieldDescriptor (T j).2.2.1 = some .int := by rw [hfd.1]; rfl
                have hoff : ∀ b, b ≠ a → (am_up M a j x) b = M b := am_up_off M a j x
                have hset : (am_wd cI ad M).set a (ad a, .inr (ci, (fs.mapIdx fun j f => am_fw ad M a j f).set j (.int x))) = am_wd cI ad (am_up M a j x) := am_wd_set hLL hoff (by
                  show (Sum.inr (ci, (fs.mapIdx fun j f => am_fw ad M a j f).set j (.int x)) : va_E) = Sum.inr (ci, fs.mapIdx fun j9 f9 => am_fw ad (am_up M a j x) a j9 f9)
                  rw [am_set_fw (M' := am_up M a j x) hf (by show _ = Value.int (am_up M a j x a j); rw [am_up_self]) (fun i f9 hi h9 => am_fw_up hi (am_kinds hLL h9) rfl (am_kinds hLL hf))])
                cases nest with
                | zero =>
                  refine va_put (Q := Q) (v := .int x) hx hb hts (am_cls ci _ hcl).2.2 (am_tyof ci) (am_cls ci _ hcl).1 (am_cls ci _ hcl).2.1 hown hK hR.1 hR.2.1 hR.2.2.1 a he hcl j hk (hts _ (hw rfl)) (fun _ h => h) hnf hty rfl rfl (by rw [List.length_mapIdx]; exact hjl) hd (fun H1 locs1 hP hD hS => ?_)
                  rw [hset] at hP hD
                  exact kk _ _ _ ⟨hP, hD, hS, hR.2.2.2.1, fun i hi => by rw [hoff _ (by omega)]; exact hR.2.2.2.2.1 i hi, by rw [hoff _ (by omega)]; exact hR.2.2.2.2.2⟩
                | succ q =>
                  refine va_putN (Q := Q) (v := .int x) hx hb hts (am_cls ci _ hcl).2.2 (am_tyof ci) (am_cls ci _ hcl).1 (am_cls ci _ hcl).2.1 hown hK hR.1 hR.2.1 hR.2.2.1 a he hcl j hk (va_Nw.use rfl (hZ.2.2.2.2.2.2.2.2.2 _ _ _ _ _ _ _ (hw' (by omega)))) (fun _ h => h) hnf hty rfl rfl (by rw [List.length_mapIdx]; exact hjl) hd (fun H1 locs1 hP hD hS => ?_)
                  rw [hset] at hP hD
                  exact kk _ _ _ ⟨hP, hD, hS, hR.2.2.2.1, fun i hi => by rw [hoff _ (by omega)]; exact hR.2.2.2.2.1 i hi, by rw [hoff _ (by omega)]; exact hR.2.2.2.2.2⟩
              · rename_i x hf
                have hjl : j < fs.length := (List.getElem?_eq_some_iff.mp hf).1
                cases hv
                have hfd := am_fld2 hLL hf hcl
                have hnf : (T j).2.2.2 = false := hfd.2
                have hty : parseFieldDescriptor (T j).2.2.1 = some .long := by rw [hfd.1]; rfl
                have hoff : ∀ b, b ≠ a → (am_up (am_up M a j (am_hi x)) a (j + 100) (am_lw x)) b = M b := fun b hb => by rw [am_up_off _ _ _ _ b hb, am_up_off _ _ _ _ b hb]
                have hset : (am_wd cI ad M).set a (ad a, .inr (ci, (fs.mapIdx fun j f => am_fw ad M a j f).set j (.long x))) = am_wd cI ad (am_up (am_up M a j (am_hi x)) a (j + 100) (am_lw x)) := am_wd_set hLL hoff (by
                  show (Sum.inr (ci, (fs.mapIdx fun j f => am_fw ad M a j f).set j (.long x)) : va_E) = Sum.inr (ci, fs.mapIdx fun j9 f9 => am_fw ad (am_up (am_up M a j (am_hi x)) a (j + 100) (am_lw x)) a j9 f9)
                  rw [am_set_fw (M' := am_up (am_up M a j (am_hi x)) a (j + 100) (am_lw x)) hf (by show _ = Value.long (am_lg (am_up (am_up M a j (am_hi x)) a (j + 100) (am_lw x) a j) (am_up (am_up M a j (am_hi x)) a (j + 100) (am_lw x) a (j + 100))); rw [am_up_self, am_up_ne _ _ _ _ (by omega), am_up_self, am_lg_hl]) (fun i f9 hi h9 => am_fw_up2 hi (am_short hLL h9) (am_short hLL hf))])
                cases nest with
                | zero =>
                  refine va_put (Q := Q) (v := .long x) hx hb hts (am_cls ci _ hcl).2.2 (am_tyof ci) (am_cls ci _ hcl).1 (am_cls ci _ hcl).2.1 hown hK hR.1 hR.2.1 hR.2.2.1 a he hcl j hk (hts _ (hw rfl)) (fun _ h => h) hnf hty rfl rfl (by rw [List.length_mapIdx]; exact hjl) hd (fun H1 locs1 hP hD hS => ?_)
                  rw [hset] at hP hD
                  exact kk _ _ _ ⟨hP, hD, hS, hR.2.2.2.1, fun i hi => by rw [hoff _ (by omega)]; exact hR.2.2.2.2.1 i hi, by rw [hoff _ (by omega)]; exact hR.2.2.2.2.2⟩
                | succ q =>
                  refine va_putN (Q := Q) (v := .long x) hx hb hts (am_cls ci _ hcl).2.2 (am_tyof ci) (am_cls ci _ hcl).1 (am_cls ci _ hcl).2.1 hown hK hR.1 hR.2.1 hR.2.2.1 a he hcl j hk (va_Nw.use rfl (hZ.2.2.2.2.2.2.2.2.2 _ _ _ _ _ _ _ (hw' (by omega)))) (fun _ h => h) hnf hty rfl rfl (by rw [List.length_mapIdx]; exact hjl) hd (fun H1 locs1 hP hD hS => ?_)
                  rw [hset] at hP hD
                  exact kk _ _ _ ⟨hP, hD, hS, hR.2.2.2.1, fun i hi => by rw [hoff _ (by omega)]; exact hR.2.2.2.2.1 i hi, by rw [hoff _ (by omega)]; exact hR.2.2.2.2.2⟩
              · rename_i x hf
                have hjl : j < fs.length := (List.getElem?_eq_some_iff.mp hf).1
                by_cases h01 : x = 0 ∨ x = 1
                · rw [if_pos h01] at hv
                  cases hv
                  have hnz : narrow .boolean (.int x) = .int x := by rcases h01 with rfl | rfl <;> rfl
                  have hfz : fits .boolean (.int x) = true := by rcases h01 with rfl | rfl <;> rfl
                  have hfd := am_fld2 hLL hf hcl
                  have hnf : (T j).2.2.2 = false := hfd.2
                  have hty : parseFieldDescriptor (T j).2.2.1 = some .boolean := by rw [hfd.1]; rfl
                  have hoff : ∀ b, b ≠ a → (am_up M a j x) b = M b := am_up_off M a j x
                  have hset : (am_wd cI ad M).set a (ad a, .inr (ci, (fs.mapIdx fun j f => am_fw ad M a j f).set j (.int x))) = am_wd cI ad (am_up M a j x) := am_wd_set hLL hoff (by
                    show (Sum.inr (ci, (fs.mapIdx fun j f => am_fw ad M a j f).set j (.int x)) : va_E) = Sum.inr (ci, fs.mapIdx fun j9 f9 => am_fw ad (am_up M a j x) a j9 f9)
                    rw [am_set_fw (M' := am_up M a j x) hf (by show _ = Value.int (am_up M a j x a j); rw [am_up_self]) (fun i f9 hi h9 => am_fw_up hi (am_kinds hLL h9) rfl (am_kinds hLL hf))])
                  cases nest with
                  | zero =>
                    refine va_put (Q := Q) (v := .int x) hx hb hts (am_cls ci _ hcl).2.2 (am_tyof ci) (am_cls ci _ hcl).1 (am_cls ci _ hcl).2.1 hown hK hR.1 hR.2.1 hR.2.2.1 a he hcl j hk (hts _ (hw rfl)) (fun _ h => h) hnf hty hnz hfz (by rw [List.length_mapIdx]; exact hjl) hd (fun H1 locs1 hP hD hS => ?_)
                    rw [hset] at hP hD
                    exact kk _ _ _ ⟨hP, hD, hS, hR.2.2.2.1, fun i hi => by rw [hoff _ (by omega)]; exact hR.2.2.2.2.1 i hi, by rw [hoff _ (by omega)]; exact hR.2.2.2.2.2⟩
                  | succ q =>
                    refine va_putN (Q := Q) (v := .int x) hx hb hts (am_cls ci _ hcl).2.2 (am_tyof ci) (am_cls ci _ hcl).1 (am_cls ci _ hcl).2.1 hown hK hR.1 hR.2.1 hR.2.2.1 a he hcl j hk (va_Nw.use rfl (hZ.2.2.2.2.2.2.2.2.2 _ _ _ _ _ _ _ (hw' (by omega)))) (fun _ h => h) hnf hty hnz hfz (by rw [List.length_mapIdx]; exact hjl) hd (fun H1 locs1 hP hD hS => ?_)
                    rw [hset] at hP hD
                    exact kk _ _ _ ⟨hP, hD, hS, hR.2.2.2.1, fun i hi => by rw [hoff _ (by omega)]; exact hR.2.2.2.2.1 i hi, by rw [hoff _ (by omega)]; exact hR.2.2.2.2.2⟩
                · rw [if_neg h01] at hv; cases hv
              · cases hv
          · cases hv
        · cases hv
      · cases h
    · cases h
  case arraylength =>
    have hn : n = 1 := Nat.eq_of_beq_eq_true hn
    subst hn
    dsimp only [am_ex] at h
    split at h
    · rename_i a st0
      obtain ⟨a, rfl⟩ : ∃ b : Nat, b = a := ⟨a, rfl⟩
      split at h
      · rename_i x hv
        cases h
        unfold am_len at hv
        have kk0 := kk _ _ _ hR
        split at hv
        · rename_i n9 hal
          cases hv
          have hLL := am_al_get hal
          have ha80 := am_lt hLL
          have he : (am_wd cI ad M)[a]? = some (ad a, .inl (cI, n9, .inl (M a))) := by rw [am_wd_get, hLL]; rfl
          rw [List.map_cons, am_tv_ref (by omega)]
          exact va_alen hx hb hK hR.1 a 0 he rfl rfl hd kk0
        · cases h5 : Nat.beq a 5000 with
          | true =>
            rw [h5] at hv
            cases hv
            have h5 := Nat.eq_of_beq_eq_true h5
            subst h5
            rw [List.map_cons, am_tv_ref (by omega)]
            rw [List.map_cons] at kk0
            rw [hR.2.2.2.2.2] at kk0
            exact va_slen hx hb hZ.2.2.2.2.2.1 hZ.2.2.2.2.2.2.1 hZ.2.2.2.2.2.2.2.1 hR.2.2.1 hd kk0
          | false =>
            rw [h5] at hv
            dsimp only [cond_false] at hv
            cases h6 : (Nat.ble 6100 a && Nat.blt a 6109) with
            | false => rw [h6] at hv; cases hv
            | true =>
              rw [h6] at hv
              have hv := Option.some.inj hv
              subst hv
              rw [Bool.and_eq_true] at h6
              have ha1 : 6100 ≤ a := Nat.le_of_ble_eq_true h6.1
              have ha2 : a < 6109 := Nat.le_of_ble_eq_true h6.2
              obtain ⟨i, rfl⟩ : ∃ i, a = 6100 + i := ⟨a - 6100, by omega⟩
              have hZi := hZ.1 i (by omega)
              rw [List.map_cons, am_tv_ref (by omega)]
              rw [show 6100 + i - 6100 = i by omega] at kk0
              exact va_tlen hx hb hZi.2.2.2 hR.2.2.1 rfl hd kk0
      · cases h
    · cases h
  case iaload =>
    have hn : n = 1 := Nat.eq_of_beq_eq_true hn
    subst hn
    dsimp only [am_ex] at h
    split at h
    · rename_i i a st0
      obtain ⟨a, rfl⟩ : ∃ b : Nat, b = a := ⟨a, rfl⟩
      split at h
      · rename_i x hv
        cases h
        unfold am_il at hv
        have kk0 := kk _ _ _ hR
        split at hv
        · rename_i n9 hal
          have hLL := am_al_get hal
          have ha80 := am_lt hLL
          have he : (am_wd cI ad M)[a]? = some (ad a, .inl (cI, n9, .inl (M a))) := by rw [am_wd_get, hLL]; rfl
          by_cases hin : i < 0 ∨ n9 ≤ i.toNatClampNeg
          · rw [if_pos hin] at hv; cases hv
          · rw [if_neg hin] at hv
            cases hv
            rw [List.map_cons, List.map_cons, am_tv_ref (by omega)]
            exact va_iald hx hb hK hR.1 a 0 he rfl hin hd kk0
        · cases h5 : Nat.beq a 5000 with
          | true =>
            rw [h5] at hv
            have h5 := Nat.eq_of_beq_eq_true h5
            subst h5
            dsimp only [cond_true] at hv
            by_cases hin : i < 0 ∨ (M 5001 0).toNatClampNeg ≤ i.toNatClampNeg
            · rw [if_pos hin] at hv; cases hv
            · rw [if_neg hin] at hv
              cases hv
              rw [List.map_cons, List.map_cons, am_tv_ref (by omega)]
              have hL : (M 5001 0).toNatClampNeg = L := by rw [hR.2.2.2.2.2]; exact clamp_of rfl hZ.2.2.2.2.2.2.2.2.1
              rw [hL] at hin
              have hlt : i.toNatClampNeg < L := Nat.not_le.mp fun q => hin (Or.inr q)
              rw [List.map_cons] at kk0
              rw [hR.2.2.2.2.1 _ hlt] at kk0
              exact va_sld hx hb hZ.2.2.2.2.2.1 hZ.2.2.2.2.2.2.1 hZ.2.2.2.2.2.2.2.1 hR.2.2.1 hin hd kk0
          | false => rw [h5] at hv; cases hv
      · cases h
    · cases h
  case baload =>
    have hn : n = 1 := Nat.eq_of_beq_eq_true hn
    subst hn
    dsimp only [am_ex] at h
    split at h
    · rename_i i a st0
      obtain ⟨a, rfl⟩ : ∃ b : Nat, b = a := ⟨a, rfl⟩
      split at h
      · rename_i x hv
        cases h
        unfold am_bl at hv
        have kk0 := kk _ _ _ hR
        cases h6 : (Nat.ble 6100 a && Nat.blt a 6109) with
        | false => rw [h6] at hv; cases hv
        | true =>
          rw [h6] at hv
          dsimp only [cond_true] at hv
          rw [Bool.and_eq_true] at h6
          have ha1 : 6100 ≤ a := Nat.le_of_ble_eq_true h6.1
          have ha2 : a < 6109 := Nat.le_of_ble_eq_true h6.2
          obtain ⟨q, rfl⟩ : ∃ q, a = 6100 + q := ⟨a - 6100, by omega⟩
          have hZi := hZ.1 q (by omega)
          rw [show 6100 + q - 6100 = q by omega] at hv
          by_cases hin : i < 0 ∨ am_sl.getD q 0 ≤ i.toNatClampNeg
          · rw [if_pos hin] at hv; cases hv
          · rw [if_neg hin] at hv
            cases hv
            rw [List.map_cons, List.map_cons, am_tv_ref (by omega)]
            exact va_tb hx hb hZi.2.2.2 hR.2.2.1 hin rfl hd kk0
      · cases h
    · cases h
  case iastore =>
    have hn : n = 1 := Nat.eq_of_beq_eq_true hn
    subst hn
    dsimp only [am_ex] at h
    split at h
    · rename_i x i a st0
      obtain ⟨a, rfl⟩ : ∃ b : Nat, b = a := ⟨a, rfl⟩
      split at h
      · rename_i M2 hv
        cases h
        unfold am_is at hv
        split at hv
        · rename_i n9 hal
          have hLL := am_al_get hal
          have ha80 := am_lt hLL
          have he : (am_wd cI ad M)[a]? = some (ad a, .inl (cI, n9, .inl (M a))) := by rw [am_wd_get, hLL]; rfl
          by_cases hin : i < 0 ∨ n9 ≤ i.toNatClampNeg
          · rw [if_pos hin] at hv; cases hv
          · rw [if_neg hin] at hv
            cases hv
            rw [List.map_cons, List.map_cons, List.map_cons, am_tv_ref (by omega)]
            have hoff := am_up_off M a i.toNatClampNeg x
            have hset : (am_wd cI ad M).set a (ad a, .inl (cI, n9, .inl (upd (M a) i.toNatClampNeg x))) = am_wd cI ad (am_up M a i.toNatClampNeg x) := am_wd_set hLL hoff (by
              show (Sum.inl (cI, n9, Sum.inl (upd (M a) i.toNatClampNeg x)) : va_E) = Sum.inl (cI, n9, Sum.inl (am_up M a i.toNatClampNeg x a))
              rw [show am_up M a i.toNatClampNeg x a = upd (M a) i.toNatClampNeg x from by funext j; simp [upd, am_up]])
            refine va_iast (Q := Q) hx hb hK hR.1 hR.2.1 hR.2.2.1 a 0 he rfl hin hd (fun H1 locs1 hP hD hS => ?_)
            rw [hset] at hP hD
            exact kk _ _ _ ⟨hP, hD, hS, hR.2.2.2.1, fun i hi => by rw [hoff _ (by omega)]; exact hR.2.2.2.2.1 i hi, by rw [hoff _ (by omega)]; exact hR.2.2.2.2.2⟩
        · cases hv
      · cases h
    · cases h
  all_goals (dsimp only [am_ex] at h; cases h)
end AMW
end
section
/-! the abstract machine's calls are the machine's, and so its methods: by depth -/
theorem am_wmn1 : Cond.methodLink (am_cn 4) 25 Lib.Math.min.name ∈ am_tbl := am_mem (i := 333) (by decide +kernel) (by decide +kernel)
theorem am_wmn2 : Cond.methodLink (am_cn 1) 34 Lib.Math.min.name ∈ am_tbl := am_mem (i := 532) (by decide +kernel) (by decide +kernel)
theorem am_wmn3 : Cond.static Lib.Math.min.name ∈ am_tbl := am_mem (i := 334) (by decide +kernel) (by decide +kernel)
theorem am_wmn4 : Cond.initialized "java/lang/Math" ∈ am_tbl := am_mem (i := 112) (by decide +kernel) (by decide +kernel)
theorem am_wmn5 : Cond.code Lib.Math.min.name Lib.Math.min.code 2 (some .int) ∈ am_tbl := am_mem (i := 335) (by decide +kernel) (by decide +kernel)
theorem am_cl_cn {ci : Nat} {r : vw_C} (h : am_cl[ci]? = some r) : r.1 = am_cn ci := by
  match ci, h with
  | 0, h => cases h; rfl
  | 1, h => cases h; rfl
  | 2, h => cases h; rfl
  | 3, h => cases h; rfl
  | 4, h => cases h; rfl
  | 5, h => cases h; rfl
  | 6, h => cases h; rfl
  | 7, h => cases h; rfl
  | 8, h => cases h; rfl
  | 9, h => cases h; rfl
  | k + 10, h => simp [am_cl] at h
def am_ws (t : am_T) : List Cond := Cond.code (am_nm t) (am_by t) (am_mL t) (am_rt t) :: am_tbl
def am_room (t : am_T) : Room := { frames := am_fr t, cells := 0, slots := 0, locals := am_lo t }
def am_good (t : am_T) : Prop := ∃ p1 p2, (t, p1, p2) ∈ am_ts ∧ t ≠ t_LAW_law
theorem am_good_P {t : am_T} (h : am_good t) : ∃ p1 p2, am_P (t, p1, p2) := by
  obtain ⟨p1, p2, h1, h2⟩ := h
  exact ⟨p1, p2, am_Pt _ h1 h2⟩
def am_wB (D : va_G) (cI : ClassId) (ad : Nat → Nat) (L : Nat) (xs : Nat → Int32) (M : am_M) (A : Nat → Prop) (U : State) : Prop :=
  va_P D am_cl (am_wd cI ad M) U.heap ∧ va_K D am_cl [(cI, .int)] U ∧ va_D A (am_wd cI ad M) ∧ (∀ j, j < L → M 5000 j = xs j) ∧ M 5001 0 = Int32.ofNat L
def am_pc (D : va_G) (cI : ClassId) (ad : Nat → Nat) (z : Value) (L : Nat) (xs : Nat → Int32) (M : am_M) (av : List Value) (sz : Nat) : Array Value → State → Prop :=
  va_Pc (av.map (am_tv ad z)) (fun U => U.heap.size = sz ∧ am_wB D cI ad L xs M (fun _ => True) U ∧ am_Z ad z L xs (va_A (am_wd cI ad M) sz) U U.heap)
def am_qc (D : va_G) (cI : ClassId) (ad : Nat → Nat) (z : Value) (L : Nat) (xs : Nat → Int32) (rv : Option Value) (M : am_M) (A : Nat → Prop) : Array Value → State → Outcome → State → Prop :=
  fun _ st oc t => oc = .returned (rv.map (am_tv ad z)) ∧ am_wB D cI ad L xs M A t ∧ va_F A st t
theorem am_pc_blind (D : va_G) (cI : ClassId) (ad : Nat → Nat) (z : Value) (L : Nat) (xs : Nat → Int32) (M : am_M) (av : List Value) (sz : Nat) : FrameBlind (am_pc D cI ad z L xs M av sz) := by
  intro a U g mk q
  obtain ⟨q0, q1, ⟨qP, qK, qD, q5⟩, qZ⟩ := q
  exact ⟨q0, q1, ⟨qP, va_K.moved (u := U) (U := U.calling g mk a) (Vm.Alike.refl U.vm) qK, qD, q5⟩, am_Z.same (u := U) rfl qZ⟩
abbrev am_Mt (l : Launch) (t : am_T) (av : List Value) (M : am_M) (rv : Option Value) (M' : am_M) : Prop :=
  ∀ (D : va_G) (cI : ClassId) (ad : Nat → Nat) (z : Value) (L : Nat) (xs : Nat → Int32) (sz : Nat), Met l (am_nm t) (am_ws t) (am_room t) (am_pc D cI ad z L xs M av sz) (am_qc D cI ad z L xs rv M' (va_A (am_wd cI ad M) sz)) 0 0 (va_A (am_wd cI ad M) sz)
theorem am_ml_spec {ow k : Nat} {t : am_T} (h : am_ml ow k = some t) : ∃ (q : Nat × Nat × Nat × Nat × Nat) (p1 p2 : Nat), am_as (am_m ow) k = some q ∧ (t, p1, p2) ∈ am_ts ∧ t ≠ t_LAW_law ∧ Cond.methodLink (am_cn ow) k (am_nm t) ∈ am_tbl ∧
    (q.2.1 = 0 → Cond.instanceMethod (am_nm t) ∈ am_tbl ∧ Cond.selects (am_nm t).cls (am_nm t) (am_nm t) ∈ am_tbl ∧ (parseMethodDescriptor (am_nm t).desc).map (fun d => d.parameters.length + 1) = some (am_ar t)) ∧
    (q.2.1 ≠ 0 → Cond.static (am_nm t) ∈ am_tbl ∧ (parseMethodDescriptor (am_nm t).desc).map (fun d => d.parameters.length) = some (am_ar t)) := by
  unfold am_ml at h
  split at h
  · rename_i q hq
    split at h
    · rename_i r hr
      cases h
      have hc := (List.all_eq_true.mp (am_m_all ow)) _ (am_as_mem hq)
      unfold am_cok at hc
      dsimp only at hc
      rw [hr] at hc
      dsimp only at hc
      rw [Bool.and_eq_true, Bool.and_eq_true] at hc
      obtain ⟨⟨hc1, hc2⟩, hc3⟩ := hc
      refine ⟨q, r.2.1, r.2.2, hq, List.mem_of_getElem? hr, fun e => (of_decide_eq_true hc2) (by rw [e]), am_mem (of_decide_eq_true hc1) rfl, fun h0 => ?_, fun h0 => ?_⟩
      · rw [h0] at hc3
        have hc3 : (decide _ && decide _ && decide _) = true := hc3
        rw [Bool.and_eq_true, Bool.and_eq_true] at hc3
        exact ⟨am_mem (of_decide_eq_true hc3.1.1) rfl, am_mem (of_decide_eq_true hc3.1.2) rfl, of_decide_eq_true hc3.2⟩
      · have : Nat.beq q.2.1 0 = false := by
          cases hb : Nat.beq q.2.1 0 with
          | false => rfl
          | true => exact absurd (Nat.eq_of_beq_eq_true hb) h0
        rw [this] at hc3
        have hc3 : (decide _ && decide _) = true := hc3
        rw [Bool.and_eq_true] at hc3
        exact ⟨am_mem (of_decide_eq_true hc3.1) rfl, of_decide_eq_true hc3.2⟩
    · cases h
  · cases h
section AMB
variable {p : Program} {l : Launch} {e : Env} {R : Room} {s : State} {m : MethodId} {args : Array Value} {below : List Frame} {meth : Method} {c : Code} {cells slots : Nat} {Q : State → Prop}
variable {t : am_T} {D : va_G} {cI : ClassId} {ad : Nat → Nat} {z : Value} {A : Nat → Prop} {L : Nat} {xs : Nat → Int32}
theorem am_back {H : Heap} {locs : List Loc} {pc : Nat} {LS : Array Slot} {st0 rest : List Value} {rv : Option Value} {M' : am_M} {A1 : Nat → Prop} {a : Array Value} {free : Addr → Prop} {H0 : Heap}
    (hr : va_Run p l e R s m args below meth c H locs cells slots 0 0 (F0 m pc LS st0) rest (am_qc D cI ad z L xs rv M' A1 a) free) (hS : va_S A H0 H locs) (hA : ∀ q, A1 q → A q) (hf : ∀ q, free q → A q)
    (kk : ∀ (u : State) (H1 : Heap) (locs1 : List Loc), u.heap = H1 → am_wB D cI ad L xs M' A1 u → va_S A H0 H1 locs1 → W p l e R s m args below meth c H1 locs1 cells slots Q (F0 m (pc + 3) LS ((rv.map (am_tv ad z)).toList ++ rest))) : W p l e R s m args below meth c H locs cells slots Q (F0 m pc LS st0) := by
  intro T hT X
  obtain ⟨v, st₀, u, T', L9, h0, X', hL, e1, e2, ⟨hv, hB, hz, hk⟩, st⟩ := hr T hT X
  cases hv
  rw [h0] at hz hk
  obtain ⟨t2, a1, b1⟩ := kk u T'.heap (locs ++ L9) e1.symm hB
    ⟨Nat.le_trans hS.1 (by rw [e1]; exact hz), fun q h1 h2 => by rw [e1, hk q (Nat.lt_of_lt_of_le h1 hS.1) (fun z => h2 (hA q z))]; exact hS.2.1 q h1 h2, fun q hq => by
      rcases List.mem_append.mp hq with h | h
      · exact hS.2.2 q h
      · exact hf _ (hL q h)⟩ T' rfl X'
  exact ⟨t2, st t2 a1, b1⟩
theorem am_cal_W (E : am_E p s m args c t D cI ad z A L xs) (hrok : am_rok t = true) (hcokI : (am_cd t).all (am_cokI (am_ow t)) = true) (hdok : am_dok (am_by t) (am_cd t) = true) (hRf : am_fr t ≤ R.frames) (hRl : am_lo t ≤ R.locals) (hcs : cells ≤ R.cells ∧ slots ≤ R.slots)
    {d : Nat} (IH : ∀ (t' : am_T), am_good t' → ∀ (av : List Value) (M : am_M) (rv : Option Value) (M' : am_M), am_run d t' av M rv M' → am_Mt l t' av M rv M')
    (har : ∀ (t' : am_T) (av : List Value) (M : am_M) (rv : Option Value) (M' : am_M), am_run d t' av M rv M' → av.length = am_ar t') {c0 c1 : am_C} (h : am_cal (am_run d) t c0 c1)
    {H : Heap} {locs : List Loc} {LS : Array Slot} (hR : am_R D cI ad z A L xs s (am_mL t) H locs LS c0.2.1 c0.2.2.2)
    (kk : ∀ (H' : Heap) (locs' : List Loc) (LS' : Array Slot), am_R D cI ad z A L xs s (am_mL t) H' locs' LS' c1.2.1 c1.2.2.2 → W p l e R s m args below meth c H' locs' cells slots Q (F0 m c1.1 LS' (c1.2.2.1.map (am_tv ad z)))) :
    W p l e R s m args below meth c H locs cells slots Q (F0 m c0.1 LS (c0.2.2.1.map (am_tv ad z))) := by
  obtain ⟨hx, hb, hml, hown, hts, hK, hZ, hA⟩ := E
  have hz := hZ.2.2.2.1
  obtain ⟨pc, ls, st, M⟩ := c0
  obtain ⟨i, k, t', av, rest, rv, M', a1, a2, a3, a4, a5, a8, a6, a7⟩ := h
  subst a7
  dsimp only at a1 a4 a6 hR kk ⊢
  have hmem := am_as_mem a1
  have hde := (List.all_eq_true.mp hdok) _ hmem
  rw [Bool.and_eq_true, Bool.and_eq_true] at hde
  have hd := of_decide_eq_true hde.1.1
  dsimp only at hd
  have hro := (List.all_eq_true.mp hrok) _ hmem
  dsimp only at hro
  rw [a2] at hro
  dsimp only at hro
  rw [a3] at hro
  simp only [Bool.and_eq_true] at hro
  have hf1 : am_fr t' + 1 ≤ am_fr t := Nat.le_of_ble_eq_true hro.1.1.1
  have hl1 : 8 + (am_mL t' + 11) + am_lo t' ≤ am_lo t := Nat.le_of_ble_eq_true hro.1.1.2
  obtain ⟨q, p1, p2, b1, b2, b3, b4, b5, b6⟩ := am_ml_spec a3
  have hg : am_good t' := ⟨p1, p2, b2, b3⟩
  have hPt := am_Pt _ b2 b3
  have hnok := hPt.2.2.1
  unfold am_nok at hnok
  simp only [Bool.and_eq_true] at hnok
  have hMH := of_decide_eq_true hnok.1.1.2
  have hcn := of_decide_eq_true hnok.2
  have hin : Cond.initialized (am_nm t').cls ∈ am_tbl := am_mem (of_decide_eq_true hnok.1.2) rfl
  have hcode : Cond.code (am_nm t') (am_by t') (am_mL t') (am_rt t') ∈ am_tbl := am_mem hPt.2.2.2 rfl
  have hGw : GoodIn am_tbl (am_ws t') := fun w hw => by
    rcases List.mem_cons.mp hw with rfl | hw
    · exact ⟨hcode, good_of_word rfl⟩
    · exact ⟨hw, good_of_word ((List.all_eq_true.mp am_tbl_good) w hw)⟩
  have hlen := har _ _ _ _ _ a6
  have hMet := IH t' hg av M rv M' a6 D cI ad z L xs H.size
  have hF : ∀ q, va_A (am_wd cI ad M) H.size q → A q := by
    rintro q (⟨k, e, h⟩ | h)
    · exact hR.2.1.2 k _ h
    · exact hA q (Nat.le_trans hR.2.2.1.1 h)
  have hpre : ∀ U : State, U.heap = H → s.WarmedH U.vm → am_pc D cI ad z L xs M av H.size (av.map (am_tv ad z)).toArray U := fun U hU hW =>
    ⟨rfl, by rw [hU], ⟨by rw [hU]; exact hR.1, va_K.moved hW.alike hK, hR.2.1.weaken (fun _ _ _ _ => trivial), hR.2.2.2.2.1, hR.2.2.2.2.2⟩, by rw [hU]; exact ((hZ.kept hR.2.2.1.1 hR.2.2.1.2.1).narrow hF).warm hW⟩
  have hRm : (am_room t').frames + 1 ≤ R.frames ∧ 8 + (am_mL t' + 11) + (am_room t').locals ≤ R.locals := ⟨Nat.le_trans hf1 hRf, Nat.le_trans hl1 hRl⟩
  have hsz : (F0 m pc LS (st.map (am_tv ad z))).locals.size = am_mL t := hR.2.2.2.1.2.1
  have hwr : 2 * (F0 m pc LS (st.map (am_tv ad z))).monitorRoom + ((rest.map (am_tv ad z)).map fun v => v.category).sum ≤ 8 := lv_room (by have := am_cw_tv (ad := ad) hz rest; unfold am_cw at this a5; rw [this]; exact a5)
  have hend : ∀ (u : State) (H1 : Heap) (locs1 : List Loc), u.heap = H1 → am_wB D cI ad L xs M' (va_A (am_wd cI ad M) H.size) u → va_S A s.heap H1 locs1 → W p l e R s m args below meth c H1 locs1 cells slots Q (F0 m (pc + 3) LS ((rv.map (am_tv ad z)).toList ++ rest.map (am_tv ad z))) := by
    intro u H1 locs1 hu hB hS1
    obtain ⟨hP1, hK1, hD1, hs1, hs2⟩ := hB
    rw [hu] at hP1
    have := kk H1 locs1 LS ⟨hP1, hD1.weaken (fun k q _ h => hF q.1 h), hS1, hR.2.2.2.1, hs1, hs2⟩
    have e9 : (rv.toList ++ rest).map (am_tv ad z) = (rv.map (am_tv ad z)).toList ++ rest.map (am_tv ad z) := by
      cases rv <;> rfl
    rw [e9] at this
    exact this
  have hcI := (List.all_eq_true.mp hcokI) _ hmem
  cases i with
  | invokevirtual k2 =>
    cases a2
    have hkd : q.2.1 = 0 := by
      unfold am_cokI at hcI
      dsimp only at hcI
      rw [b1] at hcI
      exact Nat.eq_of_beq_eq_true hcI
    obtain ⟨w1, w2, w3⟩ := b5 hkd
    have hrv := a8 rfl
    unfold am_rv at hrv
    match av, hlen, hrv, hMet, hpre, a4 with
    | .ref a :: As, hlen, hrv, hMet, hpre, a4 =>
      obtain ⟨a, rfl⟩ : ∃ b : Nat, b = a := ⟨a, rfl⟩
      dsimp only at hrv
      have hn1 : (parseMethodDescriptor (am_nm t').desc).map (fun d => d.parameters.length) = some (As.map (am_tv ad z)).length := by
        cases hp9 : parseMethodDescriptor (am_nm t').desc with
        | none => rw [hp9] at w3; cases w3
        | some d9 =>
          rw [hp9] at w3
          have w3 := Option.some.inj w3
          dsimp only at w3
          rw [← hlen] at w3
          simp only [List.length_cons] at w3
          simp only [Option.map_some, List.length_map]
          congr 1
          omega
      have hG : GoodIn am_tbl (wsV (am_cn (am_ow t)) k (am_nm t').cls (am_nm t') (am_ws t')) := fun w hw => by
        unfold wsV at hw
        rcases List.mem_append.mp hw with hw | hw
        · simp only [List.mem_cons, List.not_mem_nil, or_false] at hw
          rcases hw with rfl | rfl | rfl | rfl
          · exact ⟨b4, good_of_word rfl⟩
          · exact ⟨w1, good_of_word rfl⟩
          · exact ⟨w2, good_of_word rfl⟩
          · exact ⟨hin, good_of_word rfl⟩
        · exact hGw w hw
      have hrecv : a ≠ 7000 ∧ ∃ cell : Cell, H[ad a]? = some cell ∧ cell.vm.isStatics = false ∧ s.vm.findClass (am_nm t').cls = some cell.cls := by
        split at hrv
        · rename_i ci fs hLL
          have hci := Nat.eq_of_beq_eq_true hrv
          obtain ⟨r, h1, h2, -, -⟩ := am_LL_at hLL
          have hlt := am_lt hLL
          refine ⟨by omega, ?_⟩
          have he : (am_wd cI ad M)[a]? = some (ad a, .inr (ci, fs.mapIdx fun j f => am_fw ad M a j f)) := by rw [am_wd_get, hLL]; rfl
          have := va_recv hK hR.1 h1 he
          rw [hcn, ← hci, ← am_cl_cn h1]
          exact this
        · simp only [Bool.and_eq_true] at hrv
          have ho := Nat.eq_of_beq_eq_true hrv.1.1
          have ha1 : 6000 ≤ a := Nat.le_of_ble_eq_true hrv.1.2
          have ha2 : a < 6009 := Nat.le_of_ble_eq_true hrv.2
          refine ⟨by omega, ?_⟩
          obtain ⟨j, rfl⟩ : ∃ j, a = 6000 + j := ⟨a - 6000, by omega⟩
          obtain ⟨cell, g1, g2, g3, -⟩ := (hZ.1 j (by omega)).1.kept hR.2.2.1.2.1
          exact ⟨cell, g1, g2, by rw [hcn, ho]; exact g3⟩
      have hst : st.map (am_tv ad z) = (As.map (am_tv ad z)).reverse ++ .ref (ad a) :: rest.map (am_tv ad z) := by
        rw [a4, List.map_append, List.reverse_cons, List.map_append, List.map_reverse, List.append_assoc]
        rw [List.map_cons, List.map_nil, am_tv_ref hrecv.1]
        rfl
      have hpre' : ∀ U : State, U.heap = H → s.WarmedH U.vm → am_pc D cI ad z L xs M (.ref a :: As) H.size (Value.ref (ad a) :: As.map (am_tv ad z)).toArray U := fun U hU hW => by
        have := hpre U hU hW
        rw [List.map_cons, am_tv_ref hrecv.1] at this
        exact this
      refine am_back (va_runV (As := As.map (am_tv ad z)) (rest := rest.map (am_tv ad z)) ⟨hx, hb, hml, hown, hts⟩ hMet (cwV _ hts hG rfl rfl rfl ⟨rfl, hMH.1, hMH.2, hn1⟩ hRm) ⟨am_pc_blind _ _ _ _ _ _ _ _ _, hrecv.2, hpre'⟩ rfl rfl hsz hst hwr hd ⟨hcs.1, hcs.2⟩) hR.2.2.1 hF hF hend
  | invokestatic k2 =>
    cases a2
    have hkd : q.2.1 ≠ 0 := by
      unfold am_cokI at hcI
      dsimp only at hcI
      rw [b1] at hcI
      have := Nat.eq_of_beq_eq_true hcI
      omega
    obtain ⟨w1, w3⟩ := b6 hkd
    have hn1 : (parseMethodDescriptor (am_nm t').desc).map (fun d => d.parameters.length) = some (av.map (am_tv ad z)).length := by
      rw [w3, List.length_map, hlen]
    have hG : GoodIn am_tbl (va_wsS (am_cn (am_ow t)) k (am_nm t') (am_ws t')) := fun w hw => by
      unfold va_wsS at hw
      rcases List.mem_append.mp hw with hw | hw
      · simp only [List.mem_cons, List.not_mem_nil, or_false] at hw
        rcases hw with rfl | rfl | rfl
        · exact ⟨b4, good_of_word rfl⟩
        · exact ⟨w1, good_of_word rfl⟩
        · exact ⟨hin, good_of_word rfl⟩
      · exact hGw w hw
    have hst : st.map (am_tv ad z) = (av.map (am_tv ad z)).reverse ++ rest.map (am_tv ad z) := by
      rw [a4, List.map_append, List.map_reverse]
    refine am_back (va_runS (As := av.map (am_tv ad z)) (rest := rest.map (am_tv ad z)) ⟨hx, hb, hml, hown, hts⟩ hMet (va_cwS _ hts hG rfl rfl rfl ⟨hMH.1, hMH.2, hn1⟩ hRm) ⟨am_pc_blind _ _ _ _ _ _ _ _ _, hpre⟩ rfl rfl hsz hst hwr hd ⟨hcs.1, hcs.2⟩) hR.2.2.1 hF hF hend
  | _ => cases a2
theorem am_cp_W (E : am_E p s m args c t D cI ad z A L xs) (hrok : am_rok t = true) (hdok : am_dok (am_by t) (am_cd t) = true) (hRf : am_fr t ≤ R.frames) (hRl : am_lo t ≤ R.locals) (hcs : cells ≤ R.cells ∧ slots ≤ R.slots)
    {c0 c1 : am_C} (h : am_oth t c0 c1)
    {H : Heap} {locs : List Loc} {LS : Array Slot} (hR : am_R D cI ad z A L xs s (am_mL t) H locs LS c0.2.1 c0.2.2.2)
    (kk : ∀ (H' : Heap) (locs' : List Loc) (LS' : Array Slot), am_R D cI ad z A L xs s (am_mL t) H' locs' LS' c1.2.1 c1.2.2.2 → W p l e R s m args below meth c H' locs' cells slots Q (F0 m c1.1 LS' (c1.2.2.1.map (am_tv ad z)))) :
    W p l e R s m args below meth c H locs cells slots Q (F0 m c0.1 LS (c0.2.2.1.map (am_tv ad z))) := by
  obtain ⟨hx, hb, hml, hown, hts, hK, hZ, hA⟩ := E
  have hz := hZ.2.2.2.1
  obtain ⟨pc, ls, st, M⟩ := c0
  have room : ∀ k, am_as (am_cd t) pc = some (.invokestatic k, 3) → decode (am_by t) pc = .ok (.invokestatic k, 3) ∧ (am_ac (am_ow t) k = true → 1 ≤ am_fr t ∧ 18 ≤ am_lo t) ∧ (am_mnl (am_ow t) k = true → 1 ≤ am_fr t ∧ 21 ≤ am_lo t) := by
    intro k a1
    have hmem := am_as_mem a1
    have hde := (List.all_eq_true.mp hdok) _ hmem
    rw [Bool.and_eq_true, Bool.and_eq_true] at hde
    have hd := of_decide_eq_true hde.1.1
    have hro := (List.all_eq_true.mp hrok) _ hmem
    unfold am_iv at hro
    dsimp only at hro
    simp only [Bool.and_eq_true] at hro
    refine ⟨hd, fun q => ?_, fun q => ?_⟩
    · have := hro.1.2
      rw [q] at this
      simp only [Bool.not_true, Bool.false_or, Bool.and_eq_true] at this
      exact ⟨Nat.le_of_ble_eq_true this.1, Nat.le_of_ble_eq_true this.2⟩
    · have := hro.2
      rw [q] at this
      simp only [Bool.not_true, Bool.false_or, Bool.and_eq_true] at this
      exact ⟨Nat.le_of_ble_eq_true this.1, Nat.le_of_ble_eq_true this.2⟩
  rcases h with h | h | h
  · obtain ⟨k, a0, a, n0, n1, sp, dp, n, a1, a2, a3, a4, a5, h1, h2, h3, h4, h5, h6⟩ := h
    subst h6
    dsimp only at a1 a3 hR kk ⊢
    subst a3
    obtain ⟨hd, hrq, -⟩ := room k a1
    obtain ⟨hr1, hr2⟩ := hrq a2
    clear hrq
    have hL0 := am_al_get a4
    have hL1 := am_al_get a5
    have hlt0 := am_lt hL0
    have hlt1 := am_lt hL1
    have he0 : (am_wd cI ad M)[a0]? = some (ad a0, .inl (cI, n0, .inl (M a0))) := by rw [am_wd_get, hL0]; rfl
    have he1 : (am_wd cI ad M)[a]? = some (ad a, .inl (cI, n1, .inl (M a))) := by rw [am_wd_get, hL1]; rfl
    have hac : am_ow t = 6 ∧ k = 25 := by
      unfold am_ac at a2
      rw [Bool.and_eq_true] at a2
      exact ⟨Nat.eq_of_beq_eq_true a2.1, Nat.eq_of_beq_eq_true a2.2⟩
    obtain ⟨ho, rfl⟩ := hac
    rw [ho] at hown
    have hoff : ∀ b, b ≠ a → am_cpm M a0 a sp.toNatClampNeg dp.toNatClampNeg n.toNatClampNeg b = M b := fun b hb => by
      funext j
      unfold am_cpm
      rw [if_neg hb]
    have hset : (am_wd cI ad M).set a (ad a, .inl (cI, n1, .inl (va_cpy (M a0) (M a) sp.toNatClampNeg dp.toNatClampNeg n.toNatClampNeg))) = am_wd cI ad (am_cpm M a0 a sp.toNatClampNeg dp.toNatClampNeg n.toNatClampNeg) := am_wd_set hL1 hoff (by
      show (Sum.inl (cI, n1, Sum.inl (va_cpy (M a0) (M a) sp.toNatClampNeg dp.toNatClampNeg n.toNatClampNeg)) : va_E) = Sum.inl (cI, n1, Sum.inl (am_cpm M a0 a sp.toNatClampNeg dp.toNatClampNeg n.toNatClampNeg a))
      rw [show am_cpm M a0 a sp.toNatClampNeg dp.toNatClampNeg n.toNatClampNeg a = va_cpy (M a0) (M a) sp.toNatClampNeg dp.toNatClampNeg n.toNatClampNeg from by funext j; simp [am_cpm]])
    have e9 : List.map (am_tv ad z) [.int n, .int dp, .ref a, .int sp, .ref a0] = [.int n, .int dp, .ref (ad a), .int sp, .ref (ad a0)] := by
      simp only [List.map_cons, List.map_nil]
      rw [am_tv_ref (by omega), am_tv_ref (by omega)]
      rfl
    rw [e9]
    refine va_copyi (Q := Q) (ty := .int) hx hb (hml.trans hR.2.2.2.1.2.1.symm) hown (hts _ am_wac1) (hts _ am_wac2) (hts _ am_wac3) (hts _ am_wac4) hK hR.1 hR.2.1 hR.2.2.1 a0 a 0 0 he0 he1 rfl rfl rfl h1 h2 h3 h4 h5 (fun _ _ => rfl) (Nat.le_trans hr1 hRf) (Nat.le_trans (show 18 ≤ am_lo t from hr2) hRl) hd (fun H1 locs1 hP hD hS => ?_)
    rw [hset] at hP hD
    exact kk _ _ _ ⟨hP, hD, hS, hR.2.2.2.1, fun i hi => by rw [hoff _ (by omega)]; exact hR.2.2.2.2.1 i hi, by rw [hoff _ (by omega)]; exact hR.2.2.2.2.2⟩
  · obtain ⟨k, x, y, st0, a1, a2, a3, a4, h6⟩ := h
    subst h6
    dsimp only at a1 a3 hR kk ⊢
    subst a3
    obtain ⟨hd, -, hrq⟩ := room k a1
    obtain ⟨hr1, hr2⟩ := hrq a2
    clear hrq
    have hw : Cond.methodLink (am_cn (am_ow t)) k Lib.Math.min.name ∈ am_tbl := by
      unfold am_mnl at a2
      rw [Bool.or_eq_true, Bool.and_eq_true, Bool.and_eq_true] at a2
      rcases a2 with ⟨h1, h2⟩ | ⟨h1, h2⟩
      · rw [Nat.eq_of_beq_eq_true h1, Nat.eq_of_beq_eq_true h2]; exact am_wmn1
      · rw [Nat.eq_of_beq_eq_true h1, Nat.eq_of_beq_eq_true h2]; exact am_wmn2
    refine va_mmin (Q := Q) hx hb (hml.trans hR.2.2.2.1.2.1.symm) hown (hts _ hw) (hts _ am_wmn3) (hts _ am_wmn4) (hts _ am_wmn5) (Nat.le_trans hr1 hRf) (by
      have := am_cw_tv (ad := ad) hz st0
      unfold am_cw at this
      rw [this]
      omega) hcs.1 hcs.2 hd (kk _ _ _ hR)
  · obtain ⟨ls', h1, h2, h3⟩ := h
    subst h3
    dsimp only at h1 h2 hR kk ⊢
    refine kk _ _ _ ⟨hR.1, hR.2.1, hR.2.2.1, ⟨h1.trans hR.2.2.2.1.1, lv_mono hR.2.2.2.1.2 fun q hq => ?_⟩, hR.2.2.2.2⟩
    obtain ⟨v, g1, g2, g3⟩ := am_asc_mem.mp hq
    rcases h2 _ _ g1 with g4 | g4
    · exact absurd g4 g2
    · exact am_asc_mem.mpr ⟨v, g4, g2, g3⟩
theorem am_go_W (E : am_E p s m args c t D cI ad z A L xs) (hrok : am_rok t = true) (hcokI : (am_cd t).all (am_cokI (am_ow t)) = true) (hdok : am_dok (am_by t) (am_cd t) = true) (hRf : am_fr t ≤ R.frames) (hRl : am_lo t ≤ R.locals) (hcs : cells ≤ R.cells ∧ slots ≤ R.slots)
    {d : Nat} (IH : ∀ (t' : am_T), am_good t' → ∀ (av : List Value) (M : am_M) (rv : Option Value) (M' : am_M), am_run d t' av M rv M' → am_Mt l t' av M rv M')
    (har : ∀ (t' : am_T) (av : List Value) (M : am_M) (rv : Option Value) (M' : am_M), am_run d t' av M rv M' → av.length = am_ar t') : ∀ (k : Nat) (c0 c1 : am_C), am_go (am_run d) t k c0 c1 →
    ∀ {H : Heap} {locs : List Loc} {LS : Array Slot}, am_R D cI ad z A L xs s (am_mL t) H locs LS c0.2.1 c0.2.2.2 →
    (∀ (H' : Heap) (locs' : List Loc) (LS' : Array Slot), am_R D cI ad z A L xs s (am_mL t) H' locs' LS' c1.2.1 c1.2.2.2 → W p l e R s m args below meth c H' locs' cells slots Q (F0 m c1.1 LS' (c1.2.2.1.map (am_tv ad z)))) →
    W p l e R s m args below meth c H locs cells slots Q (F0 m c0.1 LS (c0.2.2.1.map (am_tv ad z))) := by
  intro k
  induction k with
  | zero =>
    intro c0 c1 h H locs LS hR kk
    cases h
    exact kk _ _ _ hR
  | succ k ih =>
    intro c0 c1 h H locs LS hR kk
    obtain ⟨c2, h1, h2⟩ := h
    rcases h1 with h1 | h1 | h1
    · unfold am_step at h1
      split at h1
      · rename_i i n ha
        have hde := (List.all_eq_true.mp hdok) _ (am_as_mem ha)
        rw [Bool.and_eq_true, Bool.and_eq_true] at hde
        exact am_ex_W E (of_decide_eq_true hde.1.1) hde.1.2 hde.2 h1 hR (fun H' locs' LS' hR' => ih c2 c1 h2 hR' kk)
      · cases h1
    · exact am_cp_W E hrok hdok hRf hRl hcs h1 hR (fun H' locs' LS' hR' => ih c2 c1 h2 hR' kk)
    · exact am_cal_W E hrok hcokI hdok hRf hRl hcs IH har h1 hR (fun H' locs' LS' hR' => ih c2 c1 h2 hR' kk)
end AMB
theorem am_run_ar {d : Nat} {t : am_T} {av : List Value} {M : am_M} {rv : Option Value} {M' : am_M} (h : am_run d t av M rv M') : av.length = am_ar t := by
  cases d with
  | zero => exact h.elim
  | succ d => exact h.1.2
/-- every method that the abstract machine runs, the machine runs so -/
theorem am_sound (l : Launch) : ∀ (d : Nat) (t : am_T), am_good t → ∀ (av : List Value) (M : am_M) (rv : Option Value) (M' : am_M), am_run d t av M rv M' → am_Mt l t av M rv M' := by
  intro d
  induction d with
  | zero => intro t _ av M rv M' h; exact h.elim
  | succ d IH =>
    intro t hgd av M rv M' hrun D cI ad z L xs sz
    obtain ⟨⟨hlen, har⟩, k, c', hgo, hret, rfl⟩ := hrun
    obtain ⟨p1, p2, hPd, ⟨hPr, hPc⟩, hPn, hPw⟩ := am_good_P hgd
    unfold am_nok at hPn
    simp only [Bool.and_eq_true] at hPn
    have hcn := of_decide_eq_true hPn.2
    dsimp only at hPd hPr hPc hcn
    refine Met.ofW (cc := am_by t) (maxL := am_mL t) (ret := am_rt t) hPn.1.1.1 rfl ?_
    intro p e s m args below meth c s₁ B hml hv
    obtain ⟨rfl, hsz, ⟨hP, hK, hD0, hs1, hs2⟩, hZ⟩ := hv
    have hx := B.exec
    have hb := B.bytes
    have hr := B.returns
    have hts0 := atoms_spec (ws := am_ws t) B.pre
    have hts : ∀ w ∈ am_tbl, w.before (av.map (am_tv ad z)).toArray s = true := fun w hw => hts0 w (List.mem_cons_of_mem _ hw)
    have hown : s.vm.findClass (am_cn (am_ow t)) = some m.cls := by
      rw [← hcn]
      exact findClass_of_methodNamed B.named
    have hlocks := B.notSynchronized
    subst hsz
    have hD := hD0.self (sz := s.heap.size)
    have hA : ∀ q : Nat, s.heap.size ≤ q → va_A (am_wd cI ad M) s.heap.size q := fun q h => Or.inr h
    have hS : va_S (va_A (am_wd cI ad M) s.heap.size) s.heap s.heap [] := va_S.rf
    have hz := hZ.2.2.2.1
    rw [lg_entry_eq]
    have hl := am_lv_ent (n := am_mL t) (av := av) (ad := ad) hz hlen
    have E : am_E p s m (av.map (am_tv ad z)).toArray c t D cI ad z (va_A (am_wd cI ad M) s.heap.size) L xs := ⟨hx, hb, hml, hown, hts, hK, hZ, hA⟩
    generalize va_A (am_wd cI ad M) s.heap.size = A at *
    refine am_go_W (c0 := (0, am_ent (am_mL t) av, [], M)) (c1 := c') E hPr hPc hPd (Nat.le_refl _) (Nat.le_refl _) ⟨Nat.le_refl _, Nat.le_refl _⟩ IH (fun _ _ _ _ _ => am_run_ar) k hgo ⟨hP, hD, hS, hl, hs1, hs2⟩ (fun H' locs' LS' hR => ?_)
    obtain ⟨pc', ls', st', M'⟩ := c'
    have hdec : ∀ i n, am_as (am_cd t) pc' = some (i, n) → decode (am_by t) pc' = .ok (i, n) := fun i n h => by
      have hde := (List.all_eq_true.mp hPd) _ (am_as_mem h)
      rw [Bool.and_eq_true, Bool.and_eq_true] at hde
      exact of_decide_eq_true hde.1.1
    have hq : ∀ (v : Option Value) (u : State), v = rv.map (am_tv ad z) → u.heap = H' → s.WarmedH u.vm → am_qc D cI ad z L xs rv M' A (av.map (am_tv ad z)).toArray s (.returned v) u := fun v u hv hu hW =>
      ⟨by rw [hv], ⟨by rw [hu]; exact hR.1, va_K.moved hW.alike hK, hR.2.1, hR.2.2.2.2⟩, hR.2.2.1.F hu⟩
    unfold am_ret at hret
    split at hret
    · obtain ⟨h1, h2, h3⟩ := hret
      dsimp only at h1 h2 ⊢
      subst h2
      exact W.vret hx hb (by rw [hr, h3]) (fun u hu hW => hq none u rfl hu hW) hR.2.2.1.2.2 (hdec _ _ h1)
    · rename_i x
      obtain ⟨h1, h2, ty, h3, h4⟩ := hret
      dsimp only at h1 h2 ⊢
      subst h2
      exact W.zret hx hb (by rw [hr, h3]) h4 (fun u hu hW => hq (some (.int x)) u rfl hu hW) hR.2.2.1.2.2 (hdec _ _ h1)
    · rename_i x
      obtain ⟨h1, h2, h3⟩ := hret
      dsimp only at h1 h2 ⊢
      subst h2
      exact W.lret hx hb (by rw [hr, h3]) (fun u hu hW => hq (some (.long x)) u rfl hu hW) hR.2.2.1.2.2 (hdec _ _ h1)
    · exact hret.2.2.elim
    · exact hret.elim
end
section
/-! the constructors: what they make -/
theorem am_arrI {args : Array Value} {s : State} (h : (Cond.arrayClass .int).before args s = true) : ∃ cI : ClassId, ArrOfT s cI .int ∧ va_RA s cI .int := by
  obtain ⟨cA, kA, comp, hfind, hk, hkind⟩ := Cond.arrayClass_spec h
  exact ⟨cA, fun n z => ⟨fun k h => (by cases h), kA, hk, comp, hkind⟩, hfind⟩
def am_nsm (U : State) : Prop := ∀ (p : Nat) (a : String) (i : Nat) (x : MethodName) (h : String), lw_tbl[p]? = some (.methodLinkNest a i x h) → va_Nw (.methodLinkNest a i x h) U
theorem am_nsm.warm {s U : State} (hW : s.WarmedH U.vm) (h : am_nsm s) : am_nsm U := fun p a i x b q => va_Nw.warmM hW (h p a i x b q)
theorem am_nsm.same {u U : State} (hv : u.vm = U.vm) (h : am_nsm u) : am_nsm U := fun p a i x b q => va_Nw.same rfl hv (h p a i x b q)
section AMN
variable {p : Program} {l : Launch} {e : Env} {R : Room} {s : State} {m : MethodId} {args : Array Value} {below : List Frame} {meth : Method} {c : Code} {H : Heap} {locs : List Loc} {cells slots : Nat} {Q : State → Prop}
variable {cc : ByteArray} {pc : Nat} {ls : Array Slot} {rest : List Value} {D : va_G} {cl : List vw_C} {A : Nat → Prop} {ws : va_W} {H0 : Heap} {cI : ClassId}
theorem am_newa (hexec : p.tables.exec = Jvm.exec) (hb : c.code = cc) (harr : (Cond.arrayClass .int).before args s = true) (hK : va_K D cl [(cI, .int)] s) (hP : va_P D cl ws H) (hD : va_D A ws) (hS : va_S A H0 H locs) (hA : ∀ q, H0.size ≤ q → A q)
    {n : Int32} {N : Nat} (hn : ¬ n < 0) (hN : n.toNatClampNeg = N) (hbytes : N * componentBytes .int ≤ 536870912) (hcells : cells + 1 ≤ R.cells) (hslots : slots + N ≤ R.slots) (hdg : decode cc pc = .ok (.newarray .int, 2))
    (kk : ∀ (q : Nat) (H1 : Heap), va_P D cl (ws ++ [(q, .inl (cI, N, .inl (fun _ => 0)))]) H1 → va_D A (ws ++ [(q, .inl (cI, N, .inl (fun _ => 0)))]) → va_S A H0 H1 locs → W p l e R s m args below meth c H1 locs (cells + 1) (slots + N) Q (F0 m (pc + 2) ls (.ref q :: rest))) : W p l e R s m args below meth c H locs cells slots Q (F0 m pc ls (.int n :: rest)) := by
  refine va_newa (atype := .int) (ty := .int) (a0 := (N, .inl (fun _ => 0))) hexec hb harr rfl hK hP hD hS hA (fun cA => rfl) hn hN hbytes hcells hslots hdg (fun q cA H1 hK1 hP1 hD1 hS1 => ?_)
  have h1 := (hK1.2 1 (cA, .int) rfl).2
  have h2 := (hK.2 0 (cI, .int) rfl).2
  have : cA = cI := by
    unfold va_RA at h1 h2
    exact Option.some.inj (h1.symm.trans h2)
  subst this
  exact kk q H1 hP1 hD1 hS1
end AMN
theorem am_GoodWs {y : MethodName} {b : ByteArray} {n : Nat} {r : Option FieldType} (h : Cond.code y b n r ∈ am_tbl) : GoodIn am_tbl (Cond.code y b n r :: am_tbl) := fun w hw => by
  rcases List.mem_cons.mp hw with rfl | hw
  · exact ⟨h, good_of_word rfl⟩
  · exact ⟨hw, good_of_word ((List.all_eq_true.mp am_tbl_good) w hw)⟩
theorem am_wmx3 : Cond.static Lib.Math.max.name ∈ am_tbl := (am_mem (i := 148) (by decide +kernel) (by decide +kernel))
theorem am_wmx5 : Cond.code Lib.Math.max.name Lib.Math.max.code 2 (some .int) ∈ am_tbl := am_mem (i := 149) (by decide +kernel) (by decide +kernel)
theorem am_warr : Cond.arrayClass .int ∈ am_tbl := (am_mem (i := 157) (by decide +kernel) (by decide +kernel))
theorem am_wob1 : Cond.instanceMethod objectInit ∈ am_tbl := (am_mem (i := 133) (by decide +kernel) (by decide +kernel))
theorem am_wob2 : Cond.code objectInit ⟨#[0xb1]⟩ 1 none ∈ am_tbl := am_mem (i := 134) (by decide +kernel) (by decide +kernel)
theorem dc_Row_init_0 : decode prog_8_method_1_code 0 = .ok (.aload_n 0, 1) := by decide +kernel
theorem dc_Row_init_1 : decode prog_8_method_1_code 1 = .ok (.invokespecial 1, 3) := by decide +kernel
theorem dc_Row_init_4 : decode prog_8_method_1_code 4 = .ok (.aload_n 0, 1) := by decide +kernel
theorem dc_Row_init_5 : decode prog_8_method_1_code 5 = .ok (.iload_n 1, 1) := by decide +kernel
theorem dc_Row_init_6 : decode prog_8_method_1_code 6 = .ok (.iconst 0, 1) := by decide +kernel
theorem dc_Row_init_7 : decode prog_8_method_1_code 7 = .ok (.invokestatic 7, 3) := by decide +kernel
theorem dc_Row_init_10 : decode prog_8_method_1_code 10 = .ok (.newarray .int, 2) := by decide +kernel
theorem dc_Row_init_12 : decode prog_8_method_1_code 12 = .ok (.putfield 13, 3) := by decide +kernel
theorem dc_Row_init_15 : decode prog_8_method_1_code 15 = .ok (.return_, 1) := by decide +kernel
theorem wc_Row_init : Cond.code ⟨RX6, "<init>", "(I)V"⟩ prog_8_method_1_code 2 none ∈ am_tbl := am_mem (i := 168) (by decide +kernel) (by decide +kernel)
def aw_Row (cI : ClassId) (h0 : Nat) (n0 : Nat) (f : Nat → Nat) : va_W := [(h0, .inr (6, [.ref (f 1)])), ((f 1), .inl (cI, n0, .inl (fun _ => 0)))]
set_option maxHeartbeats 4000000 in
set_option maxRecDepth 100000 in
theorem c_Row_init (l : Launch) (D : va_G) (cI : ClassId) (h0 : Nat) (sz : Nat) (p0 : Int32) (n0 : Nat) (hp0 : ¬ p0 < 0) (hp1 : p0.toNatClampNeg = n0) (hp2 : n0 * componentBytes .int ≤ 536870912) (hmx : (if p0 < 0 then 0 else p0) = p0) : Met l ⟨RX6, "<init>", "(I)V"⟩ (Cond.code ⟨RX6, "<init>", "(I)V"⟩ prog_8_method_1_code 2 none :: am_tbl) ({ frames := 1, cells := 1, slots := n0, locals := 21 }) (va_Pc [.ref h0, .int p0] (fun U => U.heap.size = sz ∧ va_P D am_cl [(h0, .inr (6, [.null]))] U.heap ∧ va_K D am_cl [(cI, .int)] U ∧ va_D (fun _ => True) [(h0, .inr (6, [.null]))] ∧ am_nsm U)) (va_Qv (fun _ : Nat → Nat => True) (fun f t => va_P D am_cl (aw_Row cI h0 n0 f) t.heap ∧ va_K D am_cl [(cI, .int)] t ∧ va_D (va_A [(h0, .inr (6, [.null]))] sz) (aw_Row cI h0 n0 f)) (va_A [(h0, .inr (6, [.null]))] sz)) 1 n0 (va_A [(h0, .inr (6, [.null]))] sz) := by
  refine Met.ofW (cc := prog_8_method_1_code) (maxL := 2) (ret := none) (by decide) rfl ?_
  intro p e s m args below meth c s₁ B hml hv
  obtain ⟨rfl, hsz, hP, hK, hD0, hNw⟩ := hv
  have hx := B.exec
  have hb := B.bytes
  have hr := B.returns
  have hts0 := atoms_spec (ws := (Cond.code ⟨RX6, "<init>", "(I)V"⟩ prog_8_method_1_code 2 none :: am_tbl)) B.pre
  have hts : ∀ w ∈ am_tbl, w.before _ s = true := fun w hw => hts0 w (List.mem_cons_of_mem _ hw)
  have hown : s.vm.findClass RX6 = some m.cls := findClass_of_methodNamed B.named
  have hlocks := B.notSynchronized
  have hin : meth.name = "<init>" := (name_of_methodNamed B.named B.method).1
  subst hsz
  have hD := hD0.self (sz := s.heap.size)
  generalize hAe : va_A [(h0, .inr (6, [.null]))] s.heap.size = A at hD ⊢
  have hA : ∀ q : Nat, s.heap.size ≤ q → A q := fun q h => by rw [← hAe]; exact Or.inr h
  have hS : va_S A s.heap s.heap [] := va_S.rf
  have hl := lv_entry ([.ref h0, .int p0]) (n := 2) (Nat.le_of_ble_eq_true rfl)
  rw [lg_entry_eq]
  generalize (lg_sl ([.ref h0, .int p0]) ++ List.replicate (2 - (lg_sl ([.ref h0, .int p0])).length) Slot.unset).toArray = ls at hl ⊢
  have hl : lv_has ls 2 [(0, .ref h0), (1, .int p0)] := hl
  refine lv_aload_n hx hb dc_Row_init_0 rfl (lv_at hl 0 rfl) ?_
  refine W.objInit hx hb hown (hts (.methodLink RX6 1 objectInit) (am_mem (i := 169) (by decide +kernel) (by decide +kernel))) (hts _ am_wob1) (hts _ am_wob2) rfl (by rw [hml]; exact hl.1) rfl dc_Row_init_1 (Nat.le_of_ble_eq_true rfl) (Nat.le_of_ble_eq_true rfl) ?_
  refine W.eq (g2 := F0 m 4 ls []) rfl ?_
  refine lv_aload_n hx hb dc_Row_init_4 rfl (lv_at hl 0 rfl) ?_
  refine lv_iload_n hx hb dc_Row_init_5 rfl (lv_at hl 1 rfl) ?_
  refine lv_iconst (v := 0) hx hb dc_Row_init_6 (by decide) ?_
  refine va_mmax hx hb (hml.trans hl.1.symm) hown (hts (.methodLink RX6 7 Lib.Math.max.name) (am_mem (i := 170) (by decide +kernel) (by decide +kernel))) (hts _ am_wmx3) (hts _ am_wmn4) (hts _ am_wmx5) (Nat.le_of_ble_eq_true rfl) (Nat.le_of_ble_eq_true rfl) (Nat.le_of_ble_eq_true rfl) (Nat.zero_le _) dc_Row_init_7 ?_
  rw [hmx]
  refine am_newa (N := n0) hx hb (hts _ am_warr) hK hP hD hS hA hp0 hp1 hp2 (Nat.le_of_ble_eq_true rfl) (by show 0 + n0 ≤ n0; omega) dc_Row_init_10 (fun q1 H hP hD hS => ?_)
  have hP : va_P D am_cl [(h0, .inr (6, [.null])), (q1, .inl (cI, n0, .inl (fun _ => 0)))] H := hP
  have hD : va_D A [(h0, .inr (6, [.null])), (q1, .inl (cI, n0, .inl (fun _ => 0)))] := hD
  refine W.widen (k := 1) (n := n0) (by omega) (by omega) ?_
  refine va_putF (D := D) (ci := 6) (v := .ref q1) (ty := tyX6 0) (C := RX6) (T := TX6) (N := 1) hx hb hts am_ws6 tyX6 tyX6_ok nmX6 hown hK hP hD hS 0 rfl rfl 0 (by decide) (hts (.fieldLink RX6 13 "StatuteBook$Row" "cells" "[I") (am_mem (i := 171) (by decide +kernel) (by decide +kernel))) (fun _ h9 => h9) rfl hin rfl (by decide +kernel) rfl rfl (Nat.le_of_ble_eq_true rfl) dc_Row_init_12 (fun H locs hP hD hS => ?_)
  have hP : va_P D am_cl [(h0, .inr (6, [.ref q1])), (q1, .inl (cI, n0, .inl (fun _ => 0)))] H := hP
  have hD : va_D A [(h0, .inr (6, [.ref q1])), (q1, .inl (cI, n0, .inl (fun _ => 0)))] := hD
  have hP9 := hP.sub (ws' := [(h0, .inr (6, [.ref q1])), (q1, .inl (cI, n0, .inl (fun _ => 0)))]) [0, 1] rfl
  exact W.vret hx hb hr (fun t ht hW => ⟨⟨(fun k => match k with | 1 => q1 | _ => 0), rfl, trivial, by rw [ht]; exact hP9, va_K.moved hW.alike hK, hD⟩, hS.F ht⟩) hS.2.2 dc_Row_init_15
theorem dc_Pag_init_0 : decode prog_6_method_1_code 0 = .ok (.aload_n 0, 1) := by decide +kernel
theorem dc_Pag_init_1 : decode prog_6_method_1_code 1 = .ok (.invokespecial 3, 3) := by decide +kernel
theorem dc_Pag_init_4 : decode prog_6_method_1_code 4 = .ok (.aload_n 0, 1) := by decide +kernel
theorem dc_Pag_init_5 : decode prog_6_method_1_code 5 = .ok (.iload_n 1, 1) := by decide +kernel
theorem dc_Pag_init_6 : decode prog_6_method_1_code 6 = .ok (.iconst 0, 1) := by decide +kernel
theorem dc_Pag_init_7 : decode prog_6_method_1_code 7 = .ok (.invokestatic 9, 3) := by decide +kernel
theorem dc_Pag_init_10 : decode prog_6_method_1_code 10 = .ok (.newarray .int, 2) := by decide +kernel
theorem dc_Pag_init_12 : decode prog_6_method_1_code 12 = .ok (.putfield 15, 3) := by decide +kernel
theorem dc_Pag_init_15 : decode prog_6_method_1_code 15 = .ok (.return_, 1) := by decide +kernel
theorem wc_Pag_init : Cond.code ⟨RX4, "<init>", "(I)V"⟩ prog_6_method_1_code 2 none ∈ am_tbl := am_mem (i := 145) (by decide +kernel) (by decide +kernel)
def aw_Pag (cI : ClassId) (h0 : Nat) (n0 : Nat) (f : Nat → Nat) : va_W := [(h0, .inr (4, [.ref (f 1), .int 0])), ((f 1), .inl (cI, n0, .inl (fun _ => 0)))]
set_option maxHeartbeats 4000000 in
set_option maxRecDepth 100000 in
theorem c_Pag_init (l : Launch) (D : va_G) (cI : ClassId) (h0 : Nat) (sz : Nat) (p0 : Int32) (n0 : Nat) (hp0 : ¬ p0 < 0) (hp1 : p0.toNatClampNeg = n0) (hp2 : n0 * componentBytes .int ≤ 536870912) (hmx : (if p0 < 0 then 0 else p0) = p0) : Met l ⟨RX4, "<init>", "(I)V"⟩ (Cond.code ⟨RX4, "<init>", "(I)V"⟩ prog_6_method_1_code 2 none :: am_tbl) ({ frames := 1, cells := 1, slots := n0, locals := 21 }) (va_Pc [.ref h0, .int p0] (fun U => U.heap.size = sz ∧ va_P D am_cl [(h0, .inr (4, [.null, .int 0]))] U.heap ∧ va_K D am_cl [(cI, .int)] U ∧ va_D (fun _ => True) [(h0, .inr (4, [.null, .int 0]))] ∧ am_nsm U)) (va_Qv (fun _ : Nat → Nat => True) (fun f t => va_P D am_cl (aw_Pag cI h0 n0 f) t.heap ∧ va_K D am_cl [(cI, .int)] t ∧ va_D (va_A [(h0, .inr (4, [.null, .int 0]))] sz) (aw_Pag cI h0 n0 f)) (va_A [(h0, .inr (4, [.null, .int 0]))] sz)) 1 n0 (va_A [(h0, .inr (4, [.null, .int 0]))] sz) := by
  refine Met.ofW (cc := prog_6_method_1_code) (maxL := 2) (ret := none) (by decide) rfl ?_
  intro p e s m args below meth c s₁ B hml hv
  obtain ⟨rfl, hsz, hP, hK, hD0, hNw⟩ := hv
  have hx := B.exec
  have hb := B.bytes
  have hr := B.returns
  have hts0 := atoms_spec (ws := (Cond.code ⟨RX4, "<init>", "(I)V"⟩ prog_6_method_1_code 2 none :: am_tbl)) B.pre
  have hts : ∀ w ∈ am_tbl, w.before _ s = true := fun w hw => hts0 w (List.mem_cons_of_mem _ hw)
  have hown : s.vm.findClass RX4 = some m.cls := findClass_of_methodNamed B.named
  have hlocks := B.notSynchronized
  have hin : meth.name = "<init>" := (name_of_methodNamed B.named B.method).1
  subst hsz
  have hD := hD0.self (sz := s.heap.size)
  generalize hAe : va_A [(h0, .inr (4, [.null, .int 0]))] s.heap.size = A at hD ⊢
  have hA : ∀ q : Nat, s.heap.size ≤ q → A q := fun q h => by rw [← hAe]; exact Or.inr h
  have hS : va_S A s.heap s.heap [] := va_S.rf
  have hl := lv_entry ([.ref h0, .int p0]) (n := 2) (Nat.le_of_ble_eq_true rfl)
  rw [lg_entry_eq]
  generalize (lg_sl ([.ref h0, .int p0]) ++ List.replicate (2 - (lg_sl ([.ref h0, .int p0])).length) Slot.unset).toArray = ls at hl ⊢
  have hl : lv_has ls 2 [(0, .ref h0), (1, .int p0)] := hl
  refine lv_aload_n hx hb dc_Pag_init_0 rfl (lv_at hl 0 rfl) ?_
  refine W.objInit hx hb hown (hts (.methodLink RX4 3 objectInit) (am_mem (i := 146) (by decide +kernel) (by decide +kernel))) (hts _ am_wob1) (hts _ am_wob2) rfl (by rw [hml]; exact hl.1) rfl dc_Pag_init_1 (Nat.le_of_ble_eq_true rfl) (Nat.le_of_ble_eq_true rfl) ?_
  refine W.eq (g2 := F0 m 4 ls []) rfl ?_
  refine lv_aload_n hx hb dc_Pag_init_4 rfl (lv_at hl 0 rfl) ?_
  refine lv_iload_n hx hb dc_Pag_init_5 rfl (lv_at hl 1 rfl) ?_
  refine lv_iconst (v := 0) hx hb dc_Pag_init_6 (by decide) ?_
  refine va_mmax hx hb (hml.trans hl.1.symm) hown (hts (.methodLink RX4 9 Lib.Math.max.name) (am_mem (i := 147) (by decide +kernel) (by decide +kernel))) (hts _ am_wmx3) (hts _ am_wmn4) (hts _ am_wmx5) (Nat.le_of_ble_eq_true rfl) (Nat.le_of_ble_eq_true rfl) (Nat.le_of_ble_eq_true rfl) (Nat.zero_le _) dc_Pag_init_7 ?_
  rw [hmx]
  refine am_newa (N := n0) hx hb (hts _ am_warr) hK hP hD hS hA hp0 hp1 hp2 (Nat.le_of_ble_eq_true rfl) (by show 0 + n0 ≤ n0; omega) dc_Pag_init_10 (fun q1 H hP hD hS => ?_)
  have hP : va_P D am_cl [(h0, .inr (4, [.null, .int 0])), (q1, .inl (cI, n0, .inl (fun _ => 0)))] H := hP
  have hD : va_D A [(h0, .inr (4, [.null, .int 0])), (q1, .inl (cI, n0, .inl (fun _ => 0)))] := hD
  refine W.widen (k := 1) (n := n0) (by omega) (by omega) ?_
  refine va_putF (D := D) (ci := 4) (v := .ref q1) (ty := tyX4 0) (C := RX4) (T := TX4) (N := 2) hx hb hts am_ws4 tyX4 tyX4_ok nmX4 hown hK hP hD hS 0 rfl rfl 0 (by decide) (hts (.fieldLink RX4 15 "StatuteBook$Page" "bytes" "[I") (am_mem (i := 150) (by decide +kernel) (by decide +kernel))) (fun _ h9 => h9) rfl hin rfl (by decide +kernel) rfl rfl (Nat.le_of_ble_eq_true rfl) dc_Pag_init_12 (fun H locs hP hD hS => ?_)
  have hP : va_P D am_cl [(h0, .inr (4, [.ref q1, .int 0])), (q1, .inl (cI, n0, .inl (fun _ => 0)))] H := hP
  have hD : va_D A [(h0, .inr (4, [.ref q1, .int 0])), (q1, .inl (cI, n0, .inl (fun _ => 0)))] := hD
  have hP9 := hP.sub (ws' := [(h0, .inr (4, [.ref q1, .int 0])), (q1, .inl (cI, n0, .inl (fun _ => 0)))]) [0, 1] rfl
  exact W.vret hx hb hr (fun t ht hW => ⟨⟨(fun k => match k with | 1 => q1 | _ => 0), rfl, trivial, by rw [ht]; exact hP9, va_K.moved hW.alike hK, hD⟩, hS.F ht⟩) hS.2.2 dc_Pag_init_15
theorem dc_Dra_init_0 : decode prog_4_method_1_code 0 = .ok (.aload_n 0, 1) := by decide +kernel
theorem dc_Dra_init_1 : decode prog_4_method_1_code 1 = .ok (.invokespecial 3, 3) := by decide +kernel
theorem dc_Dra_init_4 : decode prog_4_method_1_code 4 = .ok (.aload_n 0, 1) := by decide +kernel
theorem dc_Dra_init_5 : decode prog_4_method_1_code 5 = .ok (.new 9, 3) := by decide +kernel
theorem dc_Dra_init_8 : decode prog_4_method_1_code 8 = .ok (.dup, 1) := by decide +kernel
theorem dc_Dra_init_9 : decode prog_4_method_1_code 9 = .ok (.sipush 520, 3) := by decide +kernel
theorem dc_Dra_init_12 : decode prog_4_method_1_code 12 = .ok (.invokespecial 11, 3) := by decide +kernel
theorem dc_Dra_init_15 : decode prog_4_method_1_code 15 = .ok (.putfield 14, 3) := by decide +kernel
theorem dc_Dra_init_18 : decode prog_4_method_1_code 18 = .ok (.return_, 1) := by decide +kernel
theorem wc_Dra_init : Cond.code ⟨RX2, "<init>", "()V"⟩ prog_4_method_1_code 1 none ∈ am_tbl := am_mem (i := 162) (by decide +kernel) (by decide +kernel)
def aw_Dra (cI : ClassId) (h0 : Nat) (f : Nat → Nat) : va_W := [(h0, .inr (2, [.ref (f 1), .int 0, .int 0])), ((f 1), .inr (6, [.ref (f 2)])), ((f 2), .inl (cI, 520, .inl (fun _ => 0)))]
set_option maxHeartbeats 4000000 in
set_option maxRecDepth 100000 in
theorem c_Dra_init (l : Launch) (D : va_G) (cI : ClassId) (h0 : Nat) (sz : Nat) : Met l ⟨RX2, "<init>", "()V"⟩ (Cond.code ⟨RX2, "<init>", "()V"⟩ prog_4_method_1_code 1 none :: am_tbl) ({ frames := 2, cells := 2, slots := 521, locals := 42 }) (va_Pc [.ref h0] (fun U => U.heap.size = sz ∧ va_P D am_cl [(h0, .inr (2, [.null, .int 0, .int 0]))] U.heap ∧ va_K D am_cl [(cI, .int)] U ∧ va_D (fun _ => True) [(h0, .inr (2, [.null, .int 0, .int 0]))] ∧ am_nsm U)) (va_Qv (fun _ : Nat → Nat => True) (fun f t => va_P D am_cl (aw_Dra cI h0 f) t.heap ∧ va_K D am_cl [(cI, .int)] t ∧ va_D (va_A [(h0, .inr (2, [.null, .int 0, .int 0]))] sz) (aw_Dra cI h0 f)) (va_A [(h0, .inr (2, [.null, .int 0, .int 0]))] sz)) 2 521 (va_A [(h0, .inr (2, [.null, .int 0, .int 0]))] sz) := by
  refine Met.ofW (cc := prog_4_method_1_code) (maxL := 1) (ret := none) (by decide) rfl ?_
  intro p e s m args below meth c s₁ B hml hv
  obtain ⟨rfl, hsz, hP, hK, hD0, hNw⟩ := hv
  have hx := B.exec
  have hb := B.bytes
  have hr := B.returns
  have hts0 := atoms_spec (ws := (Cond.code ⟨RX2, "<init>", "()V"⟩ prog_4_method_1_code 1 none :: am_tbl)) B.pre
  have hts : ∀ w ∈ am_tbl, w.before _ s = true := fun w hw => hts0 w (List.mem_cons_of_mem _ hw)
  have hown : s.vm.findClass RX2 = some m.cls := findClass_of_methodNamed B.named
  have hlocks := B.notSynchronized
  have hin : meth.name = "<init>" := (name_of_methodNamed B.named B.method).1
  subst hsz
  have hD := hD0.self (sz := s.heap.size)
  generalize hAe : va_A [(h0, .inr (2, [.null, .int 0, .int 0]))] s.heap.size = A at hD ⊢
  have hA : ∀ q : Nat, s.heap.size ≤ q → A q := fun q h => by rw [← hAe]; exact Or.inr h
  have hS : va_S A s.heap s.heap [] := va_S.rf
  have hl := lv_entry ([.ref h0]) (n := 1) (Nat.le_of_ble_eq_true rfl)
  rw [lg_entry_eq]
  generalize (lg_sl ([.ref h0]) ++ List.replicate (1 - (lg_sl ([.ref h0])).length) Slot.unset).toArray = ls at hl ⊢
  have hl : lv_has ls 1 [(0, .ref h0)] := hl
  refine lv_aload_n hx hb dc_Dra_init_0 rfl (lv_at hl 0 rfl) ?_
  refine W.objInit hx hb hown (hts (.methodLink RX2 3 objectInit) (am_mem (i := 163) (by decide +kernel) (by decide +kernel))) (hts _ am_wob1) (hts _ am_wob2) rfl (by rw [hml]; exact hl.1) rfl dc_Dra_init_1 (Nat.le_of_ble_eq_true rfl) (Nat.le_of_ble_eq_true rfl) ?_
  refine W.eq (g2 := F0 m 4 ls []) rfl ?_
  refine lv_aload_n hx hb dc_Dra_init_4 rfl (lv_at hl 0 rfl) ?_
  refine va_new (ci := 6) (fs := [.null]) (C := RX6) (T := TX6) (N := 1) hx hb hts am_ws6 tyX6 tyX6_ok hown (hts (.classLink RX2 9 RX6) (am_mem (i := 164) (by decide +kernel) (by decide +kernel))) (hts (.instantiable RX6 1) (am_mem (i := 165) (by decide +kernel) (by decide +kernel))) (hts (.initialized RX6) (am_mem (i := 114) (by decide +kernel) (by decide +kernel))) hK hP hD hS hA rfl (fun j hj => by match j, hj with | 0, _ => rfl | j + 1, hj => exact absurd hj (by omega)) (Nat.le_of_ble_eq_true rfl) (Nat.le_of_ble_eq_true rfl) dc_Dra_init_5 (fun q1 H hP hD hS => ?_)
  have hP : va_P D am_cl [(h0, .inr (2, [.null, .int 0, .int 0])), (q1, .inr (6, [.null]))] H := hP
  have hD : va_D A [(h0, .inr (2, [.null, .int 0, .int 0])), (q1, .inr (6, [.null]))] := hD
  refine W.widen (k := 1) (n := 1) (by omega) (by omega) ?_
  refine lv_dup hx hb dc_Dra_init_8 rfl ?_
  refine lv_sipush (v := 520) hx hb dc_Dra_init_9 (by decide) ?_
  have hPc := hP.sub (ws' := [(q1, .inr (6, [.null]))]) [1] rfl
  have hDc := hD.sub (ws' := [(q1, .inr (6, [.null]))]) [1] (by decide) rfl
  have hKc := hK.sub (tys' := [(cI, .int)]) [0] rfl
  have hFc := va_free (wc := [(q1, .inr (6, [.null]))]) hD hS hA [1] rfl
  refine va_callv (va_runI (As := [.int 520]) (rest := [.ref q1, .ref h0]) ⟨hx, hb, hml, hown, hts⟩ (c_Row_init l D cI q1 H.size 520 520 (by decide) rfl (Nat.le_of_ble_eq_true rfl) rfl) (cwI 1 hts (am_GoodWs wc_Row_init) rfl rfl rfl (hts (.initialized RX6) (am_mem (i := 114) (by decide +kernel) (by decide +kernel))) (hts (.methodLink RX2 11 (⟨RX6, "<init>", "(I)V"⟩ : MethodName)) (am_mem (i := 166) (by decide +kernel) (by decide +kernel))) (hts (.instanceMethod (⟨RX6, "<init>", "(I)V"⟩ : MethodName)) (am_mem (i := 167) (by decide +kernel) (by decide +kernel))) rfl (by decide +kernel) ⟨Nat.le_of_ble_eq_true rfl, Nat.le_of_ble_eq_true rfl⟩) ⟨fun a U g mk q => by obtain ⟨q0, q1, qP, qK, qD, qN⟩ := q; exact ⟨q0, q1, qP, va_K.moved (u := U) (U := U.calling g mk a) (Vm.Alike.refl U.vm) qK, qD, am_nsm.same (u := U) rfl qN⟩, fun U hU hW => ⟨rfl, by rw [hU], by rw [hU]; exact hPc, va_K.moved hW.alike hKc, hDc.weaken (fun _ _ _ _ => trivial), hNw.warm hW⟩⟩ rfl rfl hl.1 rfl (lv_room (Nat.le_of_ble_eq_true rfl)) dc_Dra_init_12 ⟨Nat.le_of_ble_eq_true rfl, Nat.le_of_ble_eq_true rfl⟩) hS (fun q _ h => hFc q h) hFc (fun u t H1 locs ht hvm hw hB hz1 hk1 hS => ?_)
  obtain ⟨f2, rfl⟩ : ∃ z, z = u := ⟨_, rfl⟩
  obtain ⟨hP1, hK1, hD1⟩ := hB
  rw [ht] at hP1
  obtain ⟨hP, hD⟩ := va_join (wr := [(h0, .inr (2, [.null, .int 0, .int 0]))]) (w1 := [(q1, .inr (6, [.ref (f2 1)])), ((f2 1), .inl (cI, 520, .inl (fun _ => 0)))]) hP hD [1] [0] rfl rfl (by decide) (by decide) hk1 hFc hP1 hD1
  generalize H1 = H at hP hS ⊢
  have hP : va_P D am_cl [(h0, .inr (2, [.null, .int 0, .int 0])), (q1, .inr (6, [.ref (f2 1)])), ((f2 1), .inl (cI, 520, .inl (fun _ => 0)))] H := hP
  have hD : va_D A [(h0, .inr (2, [.null, .int 0, .int 0])), (q1, .inr (6, [.ref (f2 1)])), ((f2 1), .inl (cI, 520, .inl (fun _ => 0)))] := hD
  refine W.widen (k := 2) (n := 521) (by omega) (by omega) ?_
  refine va_putF (D := D) (ci := 2) (v := .ref q1) (ty := tyX2 0) (C := RX2) (T := TX2) (N := 3) hx hb hts am_ws2 tyX2 tyX2_ok nmX2 hown hK hP hD hS 0 rfl rfl 0 (by decide) (hts (.fieldLink RX2 14 "StatuteBook$Draft" "cells" "LStatuteBook$Row;") (am_mem (i := 175) (by decide +kernel) (by decide +kernel))) (fun _ h9 => h9) rfl hin rfl (by decide +kernel) rfl rfl (Nat.le_of_ble_eq_true rfl) dc_Dra_init_15 (fun H locs hP hD hS => ?_)
  have hP : va_P D am_cl [(h0, .inr (2, [.ref q1, .int 0, .int 0])), (q1, .inr (6, [.ref (f2 1)])), ((f2 1), .inl (cI, 520, .inl (fun _ => 0)))] H := hP
  have hD : va_D A [(h0, .inr (2, [.ref q1, .int 0, .int 0])), (q1, .inr (6, [.ref (f2 1)])), ((f2 1), .inl (cI, 520, .inl (fun _ => 0)))] := hD
  have hP9 := hP.sub (ws' := [(h0, .inr (2, [.ref q1, .int 0, .int 0])), (q1, .inr (6, [.ref (f2 1)])), ((f2 1), .inl (cI, 520, .inl (fun _ => 0)))]) [0, 1, 2] rfl
  exact W.vret hx hb hr (fun t ht hW => ⟨⟨(fun k => match k with | 1 => q1 | 2 => (f2 1) | _ => 0), rfl, trivial, by rw [ht]; exact hP9, va_K.moved hW.alike hK, hD⟩, hS.F ht⟩) hS.2.2 dc_Dra_init_18
theorem dc_Amd_init_0 : decode prog_2_method_1_code 0 = .ok (.aload_n 0, 1) := by decide +kernel
theorem dc_Amd_init_1 : decode prog_2_method_1_code 1 = .ok (.invokespecial 5, 3) := by decide +kernel
theorem dc_Amd_init_4 : decode prog_2_method_1_code 4 = .ok (.aload_n 0, 1) := by decide +kernel
theorem dc_Amd_init_5 : decode prog_2_method_1_code 5 = .ok (.new 11, 3) := by decide +kernel
theorem dc_Amd_init_8 : decode prog_2_method_1_code 8 = .ok (.dup, 1) := by decide +kernel
theorem dc_Amd_init_9 : decode prog_2_method_1_code 9 = .ok (.sipush 1605, 3) := by decide +kernel
theorem dc_Amd_init_12 : decode prog_2_method_1_code 12 = .ok (.invokespecial 13, 3) := by decide +kernel
theorem dc_Amd_init_15 : decode prog_2_method_1_code 15 = .ok (.putfield 16, 3) := by decide +kernel
theorem dc_Amd_init_18 : decode prog_2_method_1_code 18 = .ok (.return_, 1) := by decide +kernel
theorem wc_Amd_init : Cond.code ⟨RX0, "<init>", "()V"⟩ prog_2_method_1_code 1 none ∈ am_tbl := am_mem (i := 207) (by decide +kernel) (by decide +kernel)
def aw_Amd (cI : ClassId) (h0 : Nat) (f : Nat → Nat) : va_W := [(h0, .inr (0, [.ref (f 1)])), ((f 1), .inr (6, [.ref (f 2)])), ((f 2), .inl (cI, 1605, .inl (fun _ => 0)))]
set_option maxHeartbeats 4000000 in
set_option maxRecDepth 100000 in
theorem c_Amd_init (l : Launch) (D : va_G) (cI : ClassId) (h0 : Nat) (sz : Nat) : Met l ⟨RX0, "<init>", "()V"⟩ (Cond.code ⟨RX0, "<init>", "()V"⟩ prog_2_method_1_code 1 none :: am_tbl) ({ frames := 2, cells := 2, slots := 1606, locals := 42 }) (va_Pc [.ref h0] (fun U => U.heap.size = sz ∧ va_P D am_cl [(h0, .inr (0, [.null]))] U.heap ∧ va_K D am_cl [(cI, .int)] U ∧ va_D (fun _ => True) [(h0, .inr (0, [.null]))] ∧ am_nsm U)) (va_Qv (fun _ : Nat → Nat => True) (fun f t => va_P D am_cl (aw_Amd cI h0 f) t.heap ∧ va_K D am_cl [(cI, .int)] t ∧ va_D (va_A [(h0, .inr (0, [.null]))] sz) (aw_Amd cI h0 f)) (va_A [(h0, .inr (0, [.null]))] sz)) 2 1606 (va_A [(h0, .inr (0, [.null]))] sz) := by
  refine Met.ofW (cc := prog_2_method_1_code) (maxL := 1) (ret := none) (by decide) rfl ?_
  intro p e s m args below meth c s₁ B hml hv
  obtain ⟨rfl, hsz, hP, hK, hD0, hNw⟩ := hv
  have hx := B.exec
  have hb := B.bytes
  have hr := B.returns
  have hts0 := atoms_spec (ws := (Cond.code ⟨RX0, "<init>", "()V"⟩ prog_2_method_1_code 1 none :: am_tbl)) B.pre
  have hts : ∀ w ∈ am_tbl, w.before _ s = true := fun w hw => hts0 w (List.mem_cons_of_mem _ hw)
  have hown : s.vm.findClass RX0 = some m.cls := findClass_of_methodNamed B.named
  have hlocks := B.notSynchronized
  have hin : meth.name = "<init>" := (name_of_methodNamed B.named B.method).1
  subst hsz
  have hD := hD0.self (sz := s.heap.size)
  generalize hAe : va_A [(h0, .inr (0, [.null]))] s.heap.size = A at hD ⊢
  have hA : ∀ q : Nat, s.heap.size ≤ q → A q := fun q h => by rw [← hAe]; exact Or.inr h
  have hS : va_S A s.heap s.heap [] := va_S.rf
  have hl := lv_entry ([.ref h0]) (n := 1) (Nat.le_of_ble_eq_true rfl)
  rw [lg_entry_eq]
  generalize (lg_sl ([.ref h0]) ++ List.replicate (1 - (lg_sl ([.ref h0])).length) Slot.unset).toArray = ls at hl ⊢
  have hl : lv_has ls 1 [(0, .ref h0)] := hl
  refine lv_aload_n hx hb dc_Amd_init_0 rfl (lv_at hl 0 rfl) ?_
  refine W.objInit hx hb hown (hts (.methodLink RX0 5 objectInit) (am_mem (i := 208) (by decide +kernel) (by decide +kernel))) (hts _ am_wob1) (hts _ am_wob2) rfl (by rw [hml]; exact hl.1) rfl dc_Amd_init_1 (Nat.le_of_ble_eq_true rfl) (Nat.le_of_ble_eq_true rfl) ?_
  refine W.eq (g2 := F0 m 4 ls []) rfl ?_
  refine lv_aload_n hx hb dc_Amd_init_4 rfl (lv_at hl 0 rfl) ?_
  refine va_new (ci := 6) (fs := [.null]) (C := RX6) (T := TX6) (N := 1) hx hb hts am_ws6 tyX6 tyX6_ok hown (hts (.classLink RX0 11 RX6) (am_mem (i := 209) (by decide +kernel) (by decide +kernel))) (hts (.instantiable RX6 1) (am_mem (i := 165) (by decide +kernel) (by decide +kernel))) (hts (.initialized RX6) (am_mem (i := 114) (by decide +kernel) (by decide +kernel))) hK hP hD hS hA rfl (fun j hj => by match j, hj with | 0, _ => rfl | j + 1, hj => exact absurd hj (by omega)) (Nat.le_of_ble_eq_true rfl) (Nat.le_of_ble_eq_true rfl) dc_Amd_init_5 (fun q1 H hP hD hS => ?_)
  have hP : va_P D am_cl [(h0, .inr (0, [.null])), (q1, .inr (6, [.null]))] H := hP
  have hD : va_D A [(h0, .inr (0, [.null])), (q1, .inr (6, [.null]))] := hD
  refine W.widen (k := 1) (n := 1) (by omega) (by omega) ?_
  refine lv_dup hx hb dc_Amd_init_8 rfl ?_
  refine lv_sipush (v := 1605) hx hb dc_Amd_init_9 (by decide) ?_
  have hPc := hP.sub (ws' := [(q1, .inr (6, [.null]))]) [1] rfl
  have hDc := hD.sub (ws' := [(q1, .inr (6, [.null]))]) [1] (by decide) rfl
  have hKc := hK.sub (tys' := [(cI, .int)]) [0] rfl
  have hFc := va_free (wc := [(q1, .inr (6, [.null]))]) hD hS hA [1] rfl
  refine va_callv (va_runI (As := [.int 1605]) (rest := [.ref q1, .ref h0]) ⟨hx, hb, hml, hown, hts⟩ (c_Row_init l D cI q1 H.size 1605 1605 (by decide) rfl (Nat.le_of_ble_eq_true rfl) rfl) (cwI 1 hts (am_GoodWs wc_Row_init) rfl rfl rfl (hts (.initialized RX6) (am_mem (i := 114) (by decide +kernel) (by decide +kernel))) (hts (.methodLink RX0 13 (⟨RX6, "<init>", "(I)V"⟩ : MethodName)) (am_mem (i := 210) (by decide +kernel) (by decide +kernel))) (hts (.instanceMethod (⟨RX6, "<init>", "(I)V"⟩ : MethodName)) (am_mem (i := 167) (by decide +kernel) (by decide +kernel))) rfl (by decide +kernel) ⟨Nat.le_of_ble_eq_true rfl, Nat.le_of_ble_eq_true rfl⟩) ⟨fun a U g mk q => by obtain ⟨q0, q1, qP, qK, qD, qN⟩ := q; exact ⟨q0, q1, qP, va_K.moved (u := U) (U := U.calling g mk a) (Vm.Alike.refl U.vm) qK, qD, am_nsm.same (u := U) rfl qN⟩, fun U hU hW => ⟨rfl, by rw [hU], by rw [hU]; exact hPc, va_K.moved hW.alike hKc, hDc.weaken (fun _ _ _ _ => trivial), hNw.warm hW⟩⟩ rfl rfl hl.1 rfl (lv_room (Nat.le_of_ble_eq_true rfl)) dc_Amd_init_12 ⟨Nat.le_of_ble_eq_true rfl, Nat.le_of_ble_eq_true rfl⟩) hS (fun q _ h => hFc q h) hFc (fun u t H1 locs ht hvm hw hB hz1 hk1 hS => ?_)
  obtain ⟨f2, rfl⟩ : ∃ z, z = u := ⟨_, rfl⟩
  obtain ⟨hP1, hK1, hD1⟩ := hB
  rw [ht] at hP1
  obtain ⟨hP, hD⟩ := va_join (wr := [(h0, .inr (0, [.null]))]) (w1 := [(q1, .inr (6, [.ref (f2 1)])), ((f2 1), .inl (cI, 1605, .inl (fun _ => 0)))]) hP hD [1] [0] rfl rfl (by decide) (by decide) hk1 hFc hP1 hD1
  generalize H1 = H at hP hS ⊢
  have hP : va_P D am_cl [(h0, .inr (0, [.null])), (q1, .inr (6, [.ref (f2 1)])), ((f2 1), .inl (cI, 1605, .inl (fun _ => 0)))] H := hP
  have hD : va_D A [(h0, .inr (0, [.null])), (q1, .inr (6, [.ref (f2 1)])), ((f2 1), .inl (cI, 1605, .inl (fun _ => 0)))] := hD
  refine W.widen (k := 2) (n := 1606) (by omega) (by omega) ?_
  refine va_putF (D := D) (ci := 0) (v := .ref q1) (ty := tyX0 0) (C := RX0) (T := TX0) (N := 1) hx hb hts am_ws0 tyX0 tyX0_ok nmX0 hown hK hP hD hS 0 rfl rfl 0 (by decide) (hts (.fieldLink RX0 16 "StatuteBook$Amendments" "cells" "LStatuteBook$Row;") (am_mem (i := 211) (by decide +kernel) (by decide +kernel))) (fun _ h9 => h9) rfl hin rfl (by decide +kernel) rfl rfl (Nat.le_of_ble_eq_true rfl) dc_Amd_init_15 (fun H locs hP hD hS => ?_)
  have hP : va_P D am_cl [(h0, .inr (0, [.ref q1])), (q1, .inr (6, [.ref (f2 1)])), ((f2 1), .inl (cI, 1605, .inl (fun _ => 0)))] H := hP
  have hD : va_D A [(h0, .inr (0, [.ref q1])), (q1, .inr (6, [.ref (f2 1)])), ((f2 1), .inl (cI, 1605, .inl (fun _ => 0)))] := hD
  have hP9 := hP.sub (ws' := [(h0, .inr (0, [.ref q1])), (q1, .inr (6, [.ref (f2 1)])), ((f2 1), .inl (cI, 1605, .inl (fun _ => 0)))]) [0, 1, 2] rfl
  exact W.vret hx hb hr (fun t ht hW => ⟨⟨(fun k => match k with | 1 => q1 | 2 => (f2 1) | _ => 0), rfl, trivial, by rw [ht]; exact hP9, va_K.moved hW.alike hK, hD⟩, hS.F ht⟩) hS.2.2 dc_Amd_init_18
theorem dc_Arc_init_0 : decode prog_3_method_1_code 0 = .ok (.aload_n 0, 1) := by decide +kernel
theorem dc_Arc_init_1 : decode prog_3_method_1_code 1 = .ok (.invokespecial 3, 3) := by decide +kernel
theorem dc_Arc_init_4 : decode prog_3_method_1_code 4 = .ok (.aload_n 0, 1) := by decide +kernel
theorem dc_Arc_init_5 : decode prog_3_method_1_code 5 = .ok (.new 9, 3) := by decide +kernel
theorem dc_Arc_init_8 : decode prog_3_method_1_code 8 = .ok (.dup, 1) := by decide +kernel
theorem dc_Arc_init_9 : decode prog_3_method_1_code 9 = .ok (.sipush 19260, 3) := by decide +kernel
theorem dc_Arc_init_12 : decode prog_3_method_1_code 12 = .ok (.invokespecial 13, 3) := by decide +kernel
theorem dc_Arc_init_15 : decode prog_3_method_1_code 15 = .ok (.putfield 16, 3) := by decide +kernel
theorem dc_Arc_init_18 : decode prog_3_method_1_code 18 = .ok (.return_, 1) := by decide +kernel
theorem wc_Arc_init : Cond.code ⟨RX1, "<init>", "()V"⟩ prog_3_method_1_code 1 none ∈ am_tbl := am_mem (i := 220) (by decide +kernel) (by decide +kernel)
def aw_Arc (cI : ClassId) (h0 : Nat) (f : Nat → Nat) : va_W := [(h0, .inr (1, [.ref (f 1), .int 0, .int 0, .int 0])), ((f 1), .inr (6, [.ref (f 2)])), ((f 2), .inl (cI, 19260, .inl (fun _ => 0)))]
set_option maxHeartbeats 4000000 in
set_option maxRecDepth 100000 in
theorem c_Arc_init (l : Launch) (D : va_G) (cI : ClassId) (h0 : Nat) (sz : Nat) : Met l ⟨RX1, "<init>", "()V"⟩ (Cond.code ⟨RX1, "<init>", "()V"⟩ prog_3_method_1_code 1 none :: am_tbl) ({ frames := 2, cells := 2, slots := 19261, locals := 42 }) (va_Pc [.ref h0] (fun U => U.heap.size = sz ∧ va_P D am_cl [(h0, .inr (1, [.null, .int 0, .int 0, .int 0]))] U.heap ∧ va_K D am_cl [(cI, .int)] U ∧ va_D (fun _ => True) [(h0, .inr (1, [.null, .int 0, .int 0, .int 0]))] ∧ am_nsm U)) (va_Qv (fun _ : Nat → Nat => True) (fun f t => va_P D am_cl (aw_Arc cI h0 f) t.heap ∧ va_K D am_cl [(cI, .int)] t ∧ va_D (va_A [(h0, .inr (1, [.null, .int 0, .int 0, .int 0]))] sz) (aw_Arc cI h0 f)) (va_A [(h0, .inr (1, [.null, .int 0, .int 0, .int 0]))] sz)) 2 19261 (va_A [(h0, .inr (1, [.null, .int 0, .int 0, .int 0]))] sz) := by
  refine Met.ofW (cc := prog_3_method_1_code) (maxL := 1) (ret := none) (by decide) rfl ?_
  intro p e s m args below meth c s₁ B hml hv
  obtain ⟨rfl, hsz, hP, hK, hD0, hNw⟩ := hv
  have hx := B.exec
  have hb := B.bytes
  have hr := B.returns
  have hts0 := atoms_spec (ws := (Cond.code ⟨RX1, "<init>", "()V"⟩ prog_3_method_1_code 1 none :: am_tbl)) B.pre
  have hts : ∀ w ∈ am_tbl, w.before _ s = true := fun w hw => hts0 w (List.mem_cons_of_mem _ hw)
  have hown : s.vm.findClass RX1 = some m.cls := findClass_of_methodNamed B.named
  have hlocks := B.notSynchronized
  have hin : meth.name = "<init>" := (name_of_methodNamed B.named B.method).1
  subst hsz
  have hD := hD0.self (sz := s.heap.size)
  generalize hAe : va_A [(h0, .inr (1, [.null, .int 0, .int 0, .int 0]))] s.heap.size = A at hD ⊢
  have hA : ∀ q : Nat, s.heap.size ≤ q → A q := fun q h => by rw [← hAe]; exact Or.inr h
  have hS : va_S A s.heap s.heap [] := va_S.rf
  have hl := lv_entry ([.ref h0]) (n := 1) (Nat.le_of_ble_eq_true rfl)
  rw [lg_entry_eq]
  generalize (lg_sl ([.ref h0]) ++ List.replicate (1 - (lg_sl ([.ref h0])).length) Slot.unset).toArray = ls at hl ⊢
  have hl : lv_has ls 1 [(0, .ref h0)] := hl
  refine lv_aload_n hx hb dc_Arc_init_0 rfl (lv_at hl 0 rfl) ?_
  refine W.objInit hx hb hown (hts (.methodLink RX1 3 objectInit) (am_mem (i := 221) (by decide +kernel) (by decide +kernel))) (hts _ am_wob1) (hts _ am_wob2) rfl (by rw [hml]; exact hl.1) rfl dc_Arc_init_1 (Nat.le_of_ble_eq_true rfl) (Nat.le_of_ble_eq_true rfl) ?_
  refine W.eq (g2 := F0 m 4 ls []) rfl ?_
  refine lv_aload_n hx hb dc_Arc_init_4 rfl (lv_at hl 0 rfl) ?_
  refine va_new (ci := 6) (fs := [.null]) (C := RX6) (T := TX6) (N := 1) hx hb hts am_ws6 tyX6 tyX6_ok hown (hts (.classLink RX1 9 RX6) (am_mem (i := 222) (by decide +kernel) (by decide +kernel))) (hts (.instantiable RX6 1) (am_mem (i := 165) (by decide +kernel) (by decide +kernel))) (hts (.initialized RX6) (am_mem (i := 114) (by decide +kernel) (by decide +kernel))) hK hP hD hS hA rfl (fun j hj => by match j, hj with | 0, _ => rfl | j + 1, hj => exact absurd hj (by omega)) (Nat.le_of_ble_eq_true rfl) (Nat.le_of_ble_eq_true rfl) dc_Arc_init_5 (fun q1 H hP hD hS => ?_)
  have hP : va_P D am_cl [(h0, .inr (1, [.null, .int 0, .int 0, .int 0])), (q1, .inr (6, [.null]))] H := hP
  have hD : va_D A [(h0, .inr (1, [.null, .int 0, .int 0, .int 0])), (q1, .inr (6, [.null]))] := hD
  refine W.widen (k := 1) (n := 1) (by omega) (by omega) ?_
  refine lv_dup hx hb dc_Arc_init_8 rfl ?_
  refine lv_sipush (v := 19260) hx hb dc_Arc_init_9 (by decide) ?_
  have hPc := hP.sub (ws' := [(q1, .inr (6, [.null]))]) [1] rfl
  have hDc := hD.sub (ws' := [(q1, .inr (6, [.null]))]) [1] (by decide) rfl
  have hKc := hK.sub (tys' := [(cI, .int)]) [0] rfl
  have hFc := va_free (wc := [(q1, .inr (6, [.null]))]) hD hS hA [1] rfl
  refine va_callv (va_runI (As := [.int 19260]) (rest := [.ref q1, .ref h0]) ⟨hx, hb, hml, hown, hts⟩ (c_Row_init l D cI q1 H.size 19260 19260 (by decide) rfl (Nat.le_of_ble_eq_true rfl) rfl) (cwI 1 hts (am_GoodWs wc_Row_init) rfl rfl rfl (hts (.initialized RX6) (am_mem (i := 114) (by decide +kernel) (by decide +kernel))) (hts (.methodLink RX1 13 (⟨RX6, "<init>", "(I)V"⟩ : MethodName)) (am_mem (i := 223) (by decide +kernel) (by decide +kernel))) (hts (.instanceMethod (⟨RX6, "<init>", "(I)V"⟩ : MethodName)) (am_mem (i := 167) (by decide +kernel) (by decide +kernel))) rfl (by decide +kernel) ⟨Nat.le_of_ble_eq_true rfl, Nat.le_of_ble_eq_true rfl⟩) ⟨fun a U g mk q => by obtain ⟨q0, q1, qP, qK, qD, qN⟩ := q; exact ⟨q0, q1, qP, va_K.moved (u := U) (U := U.calling g mk a) (Vm.Alike.refl U.vm) qK, qD, am_nsm.same (u := U) rfl qN⟩, fun U hU hW => ⟨rfl, by rw [hU], by rw [hU]; exact hPc, va_K.moved hW.alike hKc, hDc.weaken (fun _ _ _ _ => trivial), hNw.warm hW⟩⟩ rfl rfl hl.1 rfl (lv_room (Nat.le_of_ble_eq_true rfl)) dc_Arc_init_12 ⟨Nat.le_of_ble_eq_true rfl, Nat.le_of_ble_eq_true rfl⟩) hS (fun q _ h => hFc q h) hFc (fun u t H1 locs ht hvm hw hB hz1 hk1 hS => ?_)
  obtain ⟨f2, rfl⟩ : ∃ z, z = u := ⟨_, rfl⟩
  obtain ⟨hP1, hK1, hD1⟩ := hB
  rw [ht] at hP1
  obtain ⟨hP, hD⟩ := va_join (wr := [(h0, .inr (1, [.null, .int 0, .int 0, .int 0]))]) (w1 := [(q1, .inr (6, [.ref (f2 1)])), ((f2 1), .inl (cI, 19260, .inl (fun _ => 0)))]) hP hD [1] [0] rfl rfl (by decide) (by decide) hk1 hFc hP1 hD1
  generalize H1 = H at hP hS ⊢
  have hP : va_P D am_cl [(h0, .inr (1, [.null, .int 0, .int 0, .int 0])), (q1, .inr (6, [.ref (f2 1)])), ((f2 1), .inl (cI, 19260, .inl (fun _ => 0)))] H := hP
  have hD : va_D A [(h0, .inr (1, [.null, .int 0, .int 0, .int 0])), (q1, .inr (6, [.ref (f2 1)])), ((f2 1), .inl (cI, 19260, .inl (fun _ => 0)))] := hD
  refine W.widen (k := 2) (n := 19261) (by omega) (by omega) ?_
  refine va_putF (D := D) (ci := 1) (v := .ref q1) (ty := tyX1 0) (C := RX1) (T := TX1) (N := 4) hx hb hts am_ws1 tyX1 tyX1_ok nmX1 hown hK hP hD hS 0 rfl rfl 0 (by decide) (hts (.fieldLink RX1 16 "StatuteBook$Archive" "cells" "LStatuteBook$Row;") (am_mem (i := 224) (by decide +kernel) (by decide +kernel))) (fun _ h9 => h9) rfl hin rfl (by decide +kernel) rfl rfl (Nat.le_of_ble_eq_true rfl) dc_Arc_init_15 (fun H locs hP hD hS => ?_)
  have hP : va_P D am_cl [(h0, .inr (1, [.ref q1, .int 0, .int 0, .int 0])), (q1, .inr (6, [.ref (f2 1)])), ((f2 1), .inl (cI, 19260, .inl (fun _ => 0)))] H := hP
  have hD : va_D A [(h0, .inr (1, [.ref q1, .int 0, .int 0, .int 0])), (q1, .inr (6, [.ref (f2 1)])), ((f2 1), .inl (cI, 19260, .inl (fun _ => 0)))] := hD
  have hP9 := hP.sub (ws' := [(h0, .inr (1, [.ref q1, .int 0, .int 0, .int 0])), (q1, .inr (6, [.ref (f2 1)])), ((f2 1), .inl (cI, 19260, .inl (fun _ => 0)))]) [0, 1, 2] rfl
  exact W.vret hx hb hr (fun t ht hW => ⟨⟨(fun k => match k with | 1 => q1 | 2 => (f2 1) | _ => 0), rfl, trivial, by rw [ht]; exact hP9, va_K.moved hW.alike hK, hD⟩, hS.F ht⟩) hS.2.2 dc_Arc_init_18
theorem dc_Law_init_0 : decode prog_5_method_1_code 0 = .ok (.aload_n 0, 1) := by decide +kernel
theorem dc_Law_init_1 : decode prog_5_method_1_code 1 = .ok (.invokespecial 3, 3) := by decide +kernel
theorem dc_Law_init_4 : decode prog_5_method_1_code 4 = .ok (.aload_n 0, 1) := by decide +kernel
theorem dc_Law_init_5 : decode prog_5_method_1_code 5 = .ok (.new 9, 3) := by decide +kernel
theorem dc_Law_init_8 : decode prog_5_method_1_code 8 = .ok (.dup, 1) := by decide +kernel
theorem dc_Law_init_9 : decode prog_5_method_1_code 9 = .ok (.bipush 40, 2) := by decide +kernel
theorem dc_Law_init_11 : decode prog_5_method_1_code 11 = .ok (.invokespecial 11, 3) := by decide +kernel
theorem dc_Law_init_14 : decode prog_5_method_1_code 14 = .ok (.putfield 14, 3) := by decide +kernel
theorem dc_Law_init_17 : decode prog_5_method_1_code 17 = .ok (.aload_n 0, 1) := by decide +kernel
theorem dc_Law_init_18 : decode prog_5_method_1_code 18 = .ok (.new 9, 3) := by decide +kernel
theorem dc_Law_init_21 : decode prog_5_method_1_code 21 = .ok (.dup, 1) := by decide +kernel
theorem dc_Law_init_22 : decode prog_5_method_1_code 22 = .ok (.bipush 40, 2) := by decide +kernel
theorem dc_Law_init_24 : decode prog_5_method_1_code 24 = .ok (.invokespecial 11, 3) := by decide +kernel
theorem dc_Law_init_27 : decode prog_5_method_1_code 27 = .ok (.putfield 20, 3) := by decide +kernel
theorem dc_Law_init_30 : decode prog_5_method_1_code 30 = .ok (.aload_n 0, 1) := by decide +kernel
theorem dc_Law_init_31 : decode prog_5_method_1_code 31 = .ok (.new 9, 3) := by decide +kernel
theorem dc_Law_init_34 : decode prog_5_method_1_code 34 = .ok (.dup, 1) := by decide +kernel
theorem dc_Law_init_35 : decode prog_5_method_1_code 35 = .ok (.bipush 40, 2) := by decide +kernel
theorem dc_Law_init_37 : decode prog_5_method_1_code 37 = .ok (.invokespecial 11, 3) := by decide +kernel
theorem dc_Law_init_40 : decode prog_5_method_1_code 40 = .ok (.putfield 23, 3) := by decide +kernel
theorem dc_Law_init_43 : decode prog_5_method_1_code 43 = .ok (.aload_n 0, 1) := by decide +kernel
theorem dc_Law_init_44 : decode prog_5_method_1_code 44 = .ok (.new 9, 3) := by decide +kernel
theorem dc_Law_init_47 : decode prog_5_method_1_code 47 = .ok (.dup, 1) := by decide +kernel
theorem dc_Law_init_48 : decode prog_5_method_1_code 48 = .ok (.sipush 240, 3) := by decide +kernel
theorem dc_Law_init_51 : decode prog_5_method_1_code 51 = .ok (.invokespecial 11, 3) := by decide +kernel
theorem dc_Law_init_54 : decode prog_5_method_1_code 54 = .ok (.putfield 26, 3) := by decide +kernel
theorem dc_Law_init_57 : decode prog_5_method_1_code 57 = .ok (.aload_n 0, 1) := by decide +kernel
theorem dc_Law_init_58 : decode prog_5_method_1_code 58 = .ok (.new 9, 3) := by decide +kernel
theorem dc_Law_init_61 : decode prog_5_method_1_code 61 = .ok (.dup, 1) := by decide +kernel
theorem dc_Law_init_62 : decode prog_5_method_1_code 62 = .ok (.bipush 40, 2) := by decide +kernel
theorem dc_Law_init_64 : decode prog_5_method_1_code 64 = .ok (.invokespecial 11, 3) := by decide +kernel
theorem dc_Law_init_67 : decode prog_5_method_1_code 67 = .ok (.putfield 29, 3) := by decide +kernel
theorem dc_Law_init_70 : decode prog_5_method_1_code 70 = .ok (.aload_n 0, 1) := by decide +kernel
theorem dc_Law_init_71 : decode prog_5_method_1_code 71 = .ok (.new 9, 3) := by decide +kernel
theorem dc_Law_init_74 : decode prog_5_method_1_code 74 = .ok (.dup, 1) := by decide +kernel
theorem dc_Law_init_75 : decode prog_5_method_1_code 75 = .ok (.bipush 120, 2) := by decide +kernel
theorem dc_Law_init_77 : decode prog_5_method_1_code 77 = .ok (.invokespecial 11, 3) := by decide +kernel
theorem dc_Law_init_80 : decode prog_5_method_1_code 80 = .ok (.putfield 32, 3) := by decide +kernel
theorem dc_Law_init_83 : decode prog_5_method_1_code 83 = .ok (.aload_n 0, 1) := by decide +kernel
theorem dc_Law_init_84 : decode prog_5_method_1_code 84 = .ok (.new 9, 3) := by decide +kernel
theorem dc_Law_init_87 : decode prog_5_method_1_code 87 = .ok (.dup, 1) := by decide +kernel
theorem dc_Law_init_88 : decode prog_5_method_1_code 88 = .ok (.bipush 120, 2) := by decide +kernel
theorem dc_Law_init_90 : decode prog_5_method_1_code 90 = .ok (.invokespecial 11, 3) := by decide +kernel
theorem dc_Law_init_93 : decode prog_5_method_1_code 93 = .ok (.putfield 35, 3) := by decide +kernel
theorem dc_Law_init_96 : decode prog_5_method_1_code 96 = .ok (.aload_n 0, 1) := by decide +kernel
theorem dc_Law_init_97 : decode prog_5_method_1_code 97 = .ok (.new 9, 3) := by decide +kernel
theorem dc_Law_init_100 : decode prog_5_method_1_code 100 = .ok (.dup, 1) := by decide +kernel
theorem dc_Law_init_101 : decode prog_5_method_1_code 101 = .ok (.bipush 120, 2) := by decide +kernel
theorem dc_Law_init_103 : decode prog_5_method_1_code 103 = .ok (.invokespecial 11, 3) := by decide +kernel
theorem dc_Law_init_106 : decode prog_5_method_1_code 106 = .ok (.putfield 38, 3) := by decide +kernel
theorem dc_Law_init_109 : decode prog_5_method_1_code 109 = .ok (.aload_n 0, 1) := by decide +kernel
theorem dc_Law_init_110 : decode prog_5_method_1_code 110 = .ok (.new 9, 3) := by decide +kernel
theorem dc_Law_init_113 : decode prog_5_method_1_code 113 = .ok (.dup, 1) := by decide +kernel
theorem dc_Law_init_114 : decode prog_5_method_1_code 114 = .ok (.bipush 6, 2) := by decide +kernel
theorem dc_Law_init_116 : decode prog_5_method_1_code 116 = .ok (.invokespecial 11, 3) := by decide +kernel
theorem dc_Law_init_119 : decode prog_5_method_1_code 119 = .ok (.putfield 41, 3) := by decide +kernel
theorem dc_Law_init_122 : decode prog_5_method_1_code 122 = .ok (.return_, 1) := by decide +kernel
theorem wc_Law_init : Cond.code ⟨RX3, "<init>", "()V"⟩ prog_5_method_1_code 1 none ∈ am_tbl := am_mem (i := 241) (by decide +kernel) (by decide +kernel)
def aw_Law (cI : ClassId) (h0 : Nat) (f : Nat → Nat) : va_W := [(h0, .inr (3, [.ref (f 1), .ref (f 3), .ref (f 5), .ref (f 7), .ref (f 9), .ref (f 11), .ref (f 13), .ref (f 15), .ref (f 17), .int 0, .int 0])), ((f 1), .inr (6, [.ref (f 2)])), ((f 2), .inl (cI, 40, .inl (fun _ => 0))), ((f 3), .inr (6, [.ref (f 4)])), ((f 4), .inl (cI, 40, .inl (fun _ => 0))), ((f 5), .inr (6, [.ref (f 6)])), ((f 6), .inl (cI, 40, .inl (fun _ => 0))), ((f 7), .inr (6, [.ref (f 8)])), ((f 8), .inl (cI, 240, .inl (fun _ => 0))), ((f 9), .inr (6, [.ref (f 10)])), ((f 10), .inl (cI, 40, .inl (fun _ => 0))), ((f 11), .inr (6, [.ref (f 12)])), ((f 12), .inl (cI, 120, .inl (fun _ => 0))), ((f 13), .inr (6, [.ref (f 14)])), ((f 14), .inl (cI, 120, .inl (fun _ => 0))), ((f 15), .inr (6, [.ref (f 16)])), ((f 16), .inl (cI, 120, .inl (fun _ => 0))), ((f 17), .inr (6, [.ref (f 18)])), ((f 18), .inl (cI, 6, .inl (fun _ => 0)))]
set_option maxHeartbeats 4000000 in
set_option maxRecDepth 100000 in
theorem c_Law_init (l : Launch) (D : va_G) (cI : ClassId) (h0 : Nat) (sz : Nat) : Met l ⟨RX3, "<init>", "()V"⟩ (Cond.code ⟨RX3, "<init>", "()V"⟩ prog_5_method_1_code 1 none :: am_tbl) ({ frames := 2, cells := 18, slots := 775, locals := 42 }) (va_Pc [.ref h0] (fun U => U.heap.size = sz ∧ va_P D am_cl [(h0, .inr (3, [.null, .null, .null, .null, .null, .null, .null, .null, .null, .int 0, .int 0]))] U.heap ∧ va_K D am_cl [(cI, .int)] U ∧ va_D (fun _ => True) [(h0, .inr (3, [.null, .null, .null, .null, .null, .null, .null, .null, .null, .int 0, .int 0]))] ∧ am_nsm U)) (va_Qv (fun _ : Nat → Nat => True) (fun f t => va_P D am_cl (aw_Law cI h0 f) t.heap ∧ va_K D am_cl [(cI, .int)] t ∧ va_D (va_A [(h0, .inr (3, [.null, .null, .null, .null, .null, .null, .null, .null, .null, .int 0, .int 0]))] sz) (aw_Law cI h0 f)) (va_A [(h0, .inr (3, [.null, .null, .null, .null, .null, .null, .null, .null, .null, .int 0, .int 0]))] sz)) 18 775 (va_A [(h0, .inr (3, [.null, .null, .null, .null, .null, .null, .null, .null, .null, .int 0, .int 0]))] sz) := by
  refine Met.ofW (cc := prog_5_method_1_code) (maxL := 1) (ret := none) (by decide) rfl ?_
  intro p e s m args below meth c s₁ B hml hv
  obtain ⟨rfl, hsz, hP, hK, hD0, hNw⟩ := hv
  have hx := B.exec
  have hb := B.bytes
  have hr := B.returns
  have hts0 := atoms_spec (ws := (Cond.code ⟨RX3, "<init>", "()V"⟩ prog_5_method_1_code 1 none :: am_tbl)) B.pre
  have hts : ∀ w ∈ am_tbl, w.before _ s = true := fun w hw => hts0 w (List.mem_cons_of_mem _ hw)
  have hown : s.vm.findClass RX3 = some m.cls := findClass_of_methodNamed B.named
  have hlocks := B.notSynchronized
  have hin : meth.name = "<init>" := (name_of_methodNamed B.named B.method).1
  subst hsz
  have hD := hD0.self (sz := s.heap.size)
  generalize hAe : va_A [(h0, .inr (3, [.null, .null, .null, .null, .null, .null, .null, .null, .null, .int 0, .int 0]))] s.heap.size = A at hD ⊢
  have hA : ∀ q : Nat, s.heap.size ≤ q → A q := fun q h => by rw [← hAe]; exact Or.inr h
  have hS : va_S A s.heap s.heap [] := va_S.rf
  have hl := lv_entry ([.ref h0]) (n := 1) (Nat.le_of_ble_eq_true rfl)
  rw [lg_entry_eq]
  generalize (lg_sl ([.ref h0]) ++ List.replicate (1 - (lg_sl ([.ref h0])).length) Slot.unset).toArray = ls at hl ⊢
  have hl : lv_has ls 1 [(0, .ref h0)] := hl
  refine lv_aload_n hx hb dc_Law_init_0 rfl (lv_at hl 0 rfl) ?_
  refine W.objInit hx hb hown (hts (.methodLink RX3 3 objectInit) (am_mem (i := 242) (by decide +kernel) (by decide +kernel))) (hts _ am_wob1) (hts _ am_wob2) rfl (by rw [hml]; exact hl.1) rfl dc_Law_init_1 (Nat.le_of_ble_eq_true rfl) (Nat.le_of_ble_eq_true rfl) ?_
  refine W.eq (g2 := F0 m 4 ls []) rfl ?_
  refine lv_aload_n hx hb dc_Law_init_4 rfl (lv_at hl 0 rfl) ?_
  refine va_new (ci := 6) (fs := [.null]) (C := RX6) (T := TX6) (N := 1) hx hb hts am_ws6 tyX6 tyX6_ok hown (hts (.classLink RX3 9 RX6) (am_mem (i := 243) (by decide +kernel) (by decide +kernel))) (hts (.instantiable RX6 1) (am_mem (i := 165) (by decide +kernel) (by decide +kernel))) (hts (.initialized RX6) (am_mem (i := 114) (by decide +kernel) (by decide +kernel))) hK hP hD hS hA rfl (fun j hj => by match j, hj with | 0, _ => rfl | j + 1, hj => exact absurd hj (by omega)) (Nat.le_of_ble_eq_true rfl) (Nat.le_of_ble_eq_true rfl) dc_Law_init_5 (fun q1 H hP hD hS => ?_)
  have hP : va_P D am_cl [(h0, .inr (3, [.null, .null, .null, .null, .null, .null, .null, .null, .null, .int 0, .int 0])), (q1, .inr (6, [.null]))] H := hP
  have hD : va_D A [(h0, .inr (3, [.null, .null, .null, .null, .null, .null, .null, .null, .null, .int 0, .int 0])), (q1, .inr (6, [.null]))] := hD
  refine W.widen (k := 1) (n := 1) (by omega) (by omega) ?_
  refine lv_dup hx hb dc_Law_init_8 rfl ?_
  refine lv_bipush (v := 40) hx hb dc_Law_init_9 (by decide) ?_
  have hPc := hP.sub (ws' := [(q1, .inr (6, [.null]))]) [1] rfl
  have hDc := hD.sub (ws' := [(q1, .inr (6, [.null]))]) [1] (by decide) rfl
  have hKc := hK.sub (tys' := [(cI, .int)]) [0] rfl
  have hFc := va_free (wc := [(q1, .inr (6, [.null]))]) hD hS hA [1] rfl
  refine va_callv (va_runI (As := [.int 40]) (rest := [.ref q1, .ref h0]) ⟨hx, hb, hml, hown, hts⟩ (c_Row_init l D cI q1 H.size 40 40 (by decide) rfl (Nat.le_of_ble_eq_true rfl) rfl) (cwI 1 hts (am_GoodWs wc_Row_init) rfl rfl rfl (hts (.initialized RX6) (am_mem (i := 114) (by decide +kernel) (by decide +kernel))) (hts (.methodLink RX3 11 (⟨RX6, "<init>", "(I)V"⟩ : MethodName)) (am_mem (i := 244) (by decide +kernel) (by decide +kernel))) (hts (.instanceMethod (⟨RX6, "<init>", "(I)V"⟩ : MethodName)) (am_mem (i := 167) (by decide +kernel) (by decide +kernel))) rfl (by decide +kernel) ⟨Nat.le_of_ble_eq_true rfl, Nat.le_of_ble_eq_true rfl⟩) ⟨fun a U g mk q => by obtain ⟨q0, q1, qP, qK, qD, qN⟩ := q; exact ⟨q0, q1, qP, va_K.moved (u := U) (U := U.calling g mk a) (Vm.Alike.refl U.vm) qK, qD, am_nsm.same (u := U) rfl qN⟩, fun U hU hW => ⟨rfl, by rw [hU], by rw [hU]; exact hPc, va_K.moved hW.alike hKc, hDc.weaken (fun _ _ _ _ => trivial), hNw.warm hW⟩⟩ rfl rfl hl.1 rfl (lv_room (Nat.le_of_ble_eq_true rfl)) dc_Law_init_11 ⟨Nat.le_of_ble_eq_true rfl, Nat.le_of_ble_eq_true rfl⟩) hS (fun q _ h => hFc q h) hFc (fun u t H1 locs ht hvm hw hB hz1 hk1 hS => ?_)
  obtain ⟨f2, rfl⟩ : ∃ z, z = u := ⟨_, rfl⟩
  obtain ⟨hP1, hK1, hD1⟩ := hB
  rw [ht] at hP1
  obtain ⟨hP, hD⟩ := va_join (wr := [(h0, .inr (3, [.null, .null, .null, .null, .null, .null, .null, .null, .null, .int 0, .int 0]))]) (w1 := [(q1, .inr (6, [.ref (f2 1)])), ((f2 1), .inl (cI, 40, .inl (fun _ => 0)))]) hP hD [1] [0] rfl rfl (by decide) (by decide) hk1 hFc hP1 hD1
  generalize H1 = H at hP hS ⊢
  have hP : va_P D am_cl [(h0, .inr (3, [.null, .null, .null, .null, .null, .null, .null, .null, .null, .int 0, .int 0])), (q1, .inr (6, [.ref (f2 1)])), ((f2 1), .inl (cI, 40, .inl (fun _ => 0)))] H := hP
  have hD : va_D A [(h0, .inr (3, [.null, .null, .null, .null, .null, .null, .null, .null, .null, .int 0, .int 0])), (q1, .inr (6, [.ref (f2 1)])), ((f2 1), .inl (cI, 40, .inl (fun _ => 0)))] := hD
  refine W.widen (k := 2) (n := 41) (by omega) (by omega) ?_
  refine va_putF (D := D) (ci := 3) (v := .ref q1) (ty := tyX3 0) (C := RX3) (T := TX3) (N := 11) hx hb hts am_ws3 tyX3 tyX3_ok nmX3 hown hK hP hD hS 0 rfl rfl 0 (by decide) (hts (.fieldLink RX3 14 "StatuteBook$Law" "codes" "LStatuteBook$Row;") (am_mem (i := 245) (by decide +kernel) (by decide +kernel))) (fun _ h9 => h9) rfl hin rfl (by decide +kernel) rfl rfl (Nat.le_of_ble_eq_true rfl) dc_Law_init_14 (fun H locs hP hD hS => ?_)
  have hP : va_P D am_cl [(h0, .inr (3, [.ref q1, .null, .null, .null, .null, .null, .null, .null, .null, .int 0, .int 0])), (q1, .inr (6, [.ref (f2 1)])), ((f2 1), .inl (cI, 40, .inl (fun _ => 0)))] H := hP
  have hD : va_D A [(h0, .inr (3, [.ref q1, .null, .null, .null, .null, .null, .null, .null, .null, .int 0, .int 0])), (q1, .inr (6, [.ref (f2 1)])), ((f2 1), .inl (cI, 40, .inl (fun _ => 0)))] := hD
  refine lv_aload_n hx hb dc_Law_init_17 rfl (lv_at hl 0 rfl) ?_
  refine va_new (ci := 6) (fs := [.null]) (C := RX6) (T := TX6) (N := 1) hx hb hts am_ws6 tyX6 tyX6_ok hown (hts (.classLink RX3 9 RX6) (am_mem (i := 243) (by decide +kernel) (by decide +kernel))) (hts (.instantiable RX6 1) (am_mem (i := 165) (by decide +kernel) (by decide +kernel))) (hts (.initialized RX6) (am_mem (i := 114) (by decide +kernel) (by decide +kernel))) hK hP hD hS hA rfl (fun j hj => by match j, hj with | 0, _ => rfl | j + 1, hj => exact absurd hj (by omega)) (Nat.le_of_ble_eq_true rfl) (Nat.le_of_ble_eq_true rfl) dc_Law_init_18 (fun q3 H hP hD hS => ?_)
  have hP : va_P D am_cl [(h0, .inr (3, [.ref q1, .null, .null, .null, .null, .null, .null, .null, .null, .int 0, .int 0])), (q1, .inr (6, [.ref (f2 1)])), ((f2 1), .inl (cI, 40, .inl (fun _ => 0))), (q3, .inr (6, [.null]))] H := hP
  have hD : va_D A [(h0, .inr (3, [.ref q1, .null, .null, .null, .null, .null, .null, .null, .null, .int 0, .int 0])), (q1, .inr (6, [.ref (f2 1)])), ((f2 1), .inl (cI, 40, .inl (fun _ => 0))), (q3, .inr (6, [.null]))] := hD
  refine W.widen (k := 3) (n := 42) (by omega) (by omega) ?_
  refine lv_dup hx hb dc_Law_init_21 rfl ?_
  refine lv_bipush (v := 40) hx hb dc_Law_init_22 (by decide) ?_
  have hPc := hP.sub (ws' := [(q3, .inr (6, [.null]))]) [3] rfl
  have hDc := hD.sub (ws' := [(q3, .inr (6, [.null]))]) [3] (by decide) rfl
  have hKc := hK.sub (tys' := [(cI, .int)]) [0] rfl
  have hFc := va_free (wc := [(q3, .inr (6, [.null]))]) hD hS hA [3] rfl
  refine va_callv (va_runI (As := [.int 40]) (rest := [.ref q3, .ref h0]) ⟨hx, hb, hml, hown, hts⟩ (c_Row_init l D cI q3 H.size 40 40 (by decide) rfl (Nat.le_of_ble_eq_true rfl) rfl) (cwI 1 hts (am_GoodWs wc_Row_init) rfl rfl rfl (hts (.initialized RX6) (am_mem (i := 114) (by decide +kernel) (by decide +kernel))) (hts (.methodLink RX3 11 (⟨RX6, "<init>", "(I)V"⟩ : MethodName)) (am_mem (i := 244) (by decide +kernel) (by decide +kernel))) (hts (.instanceMethod (⟨RX6, "<init>", "(I)V"⟩ : MethodName)) (am_mem (i := 167) (by decide +kernel) (by decide +kernel))) rfl (by decide +kernel) ⟨Nat.le_of_ble_eq_true rfl, Nat.le_of_ble_eq_true rfl⟩) ⟨fun a U g mk q => by obtain ⟨q0, q1, qP, qK, qD, qN⟩ := q; exact ⟨q0, q1, qP, va_K.moved (u := U) (U := U.calling g mk a) (Vm.Alike.refl U.vm) qK, qD, am_nsm.same (u := U) rfl qN⟩, fun U hU hW => ⟨rfl, by rw [hU], by rw [hU]; exact hPc, va_K.moved hW.alike hKc, hDc.weaken (fun _ _ _ _ => trivial), hNw.warm hW⟩⟩ rfl rfl hl.1 rfl (lv_room (Nat.le_of_ble_eq_true rfl)) dc_Law_init_24 ⟨Nat.le_of_ble_eq_true rfl, Nat.le_of_ble_eq_true rfl⟩) hS (fun q _ h => hFc q h) hFc (fun u t H1 locs ht hvm hw hB hz1 hk1 hS => ?_)
  obtain ⟨f4, rfl⟩ : ∃ z, z = u := ⟨_, rfl⟩
  obtain ⟨hP1, hK1, hD1⟩ := hB
  rw [ht] at hP1
  obtain ⟨hP, hD⟩ := va_join (wr := [(h0, .inr (3, [.ref q1, .null, .null, .null, .null, .null, .null, .null, .null, .int 0, .int 0])), (q1, .inr (6, [.ref (f2 1)])), ((f2 1), .inl (cI, 40, .inl (fun _ => 0)))]) (w1 := [(q3, .inr (6, [.ref (f4 1)])), ((f4 1), .inl (cI, 40, .inl (fun _ => 0)))]) hP hD [3] [0, 1, 2] rfl rfl (by decide) (by decide) hk1 hFc hP1 hD1
  generalize H1 = H at hP hS ⊢
  have hP : va_P D am_cl [(h0, .inr (3, [.ref q1, .null, .null, .null, .null, .null, .null, .null, .null, .int 0, .int 0])), (q1, .inr (6, [.ref (f2 1)])), ((f2 1), .inl (cI, 40, .inl (fun _ => 0))), (q3, .inr (6, [.ref (f4 1)])), ((f4 1), .inl (cI, 40, .inl (fun _ => 0)))] H := hP
  have hD : va_D A [(h0, .inr (3, [.ref q1, .null, .null, .null, .null, .null, .null, .null, .null, .int 0, .int 0])), (q1, .inr (6, [.ref (f2 1)])), ((f2 1), .inl (cI, 40, .inl (fun _ => 0))), (q3, .inr (6, [.ref (f4 1)])), ((f4 1), .inl (cI, 40, .inl (fun _ => 0)))] := hD
  refine W.widen (k := 4) (n := 82) (by omega) (by omega) ?_
  refine va_putF (D := D) (ci := 3) (v := .ref q3) (ty := tyX3 1) (C := RX3) (T := TX3) (N := 11) hx hb hts am_ws3 tyX3 tyX3_ok nmX3 hown hK hP hD hS 0 rfl rfl 1 (by decide) (hts (.fieldLink RX3 20 "StatuteBook$Law" "lastDays" "LStatuteBook$Row;") (am_mem (i := 246) (by decide +kernel) (by decide +kernel))) (fun _ h9 => h9) rfl hin rfl (by decide +kernel) rfl rfl (Nat.le_of_ble_eq_true rfl) dc_Law_init_27 (fun H locs hP hD hS => ?_)
  have hP : va_P D am_cl [(h0, .inr (3, [.ref q1, .ref q3, .null, .null, .null, .null, .null, .null, .null, .int 0, .int 0])), (q1, .inr (6, [.ref (f2 1)])), ((f2 1), .inl (cI, 40, .inl (fun _ => 0))), (q3, .inr (6, [.ref (f4 1)])), ((f4 1), .inl (cI, 40, .inl (fun _ => 0)))] H := hP
  have hD : va_D A [(h0, .inr (3, [.ref q1, .ref q3, .null, .null, .null, .null, .null, .null, .null, .int 0, .int 0])), (q1, .inr (6, [.ref (f2 1)])), ((f2 1), .inl (cI, 40, .inl (fun _ => 0))), (q3, .inr (6, [.ref (f4 1)])), ((f4 1), .inl (cI, 40, .inl (fun _ => 0)))] := hD
  refine lv_aload_n hx hb dc_Law_init_30 rfl (lv_at hl 0 rfl) ?_
  refine va_new (ci := 6) (fs := [.null]) (C := RX6) (T := TX6) (N := 1) hx hb hts am_ws6 tyX6 tyX6_ok hown (hts (.classLink RX3 9 RX6) (am_mem (i := 243) (by decide +kernel) (by decide +kernel))) (hts (.instantiable RX6 1) (am_mem (i := 165) (by decide +kernel) (by decide +kernel))) (hts (.initialized RX6) (am_mem (i := 114) (by decide +kernel) (by decide +kernel))) hK hP hD hS hA rfl (fun j hj => by match j, hj with | 0, _ => rfl | j + 1, hj => exact absurd hj (by omega)) (Nat.le_of_ble_eq_true rfl) (Nat.le_of_ble_eq_true rfl) dc_Law_init_31 (fun q5 H hP hD hS => ?_)
  have hP : va_P D am_cl [(h0, .inr (3, [.ref q1, .ref q3, .null, .null, .null, .null, .null, .null, .null, .int 0, .int 0])), (q1, .inr (6, [.ref (f2 1)])), ((f2 1), .inl (cI, 40, .inl (fun _ => 0))), (q3, .inr (6, [.ref (f4 1)])), ((f4 1), .inl (cI, 40, .inl (fun _ => 0))), (q5, .inr (6, [.null]))] H := hP
  have hD : va_D A [(h0, .inr (3, [.ref q1, .ref q3, .null, .null, .null, .null, .null, .null, .null, .int 0, .int 0])), (q1, .inr (6, [.ref (f2 1)])), ((f2 1), .inl (cI, 40, .inl (fun _ => 0))), (q3, .inr (6, [.ref (f4 1)])), ((f4 1), .inl (cI, 40, .inl (fun _ => 0))), (q5, .inr (6, [.null]))] := hD
  refine W.widen (k := 5) (n := 83) (by omega) (by omega) ?_
  refine lv_dup hx hb dc_Law_init_34 rfl ?_
  refine lv_bipush (v := 40) hx hb dc_Law_init_35 (by decide) ?_
  have hPc := hP.sub (ws' := [(q5, .inr (6, [.null]))]) [5] rfl
  have hDc := hD.sub (ws' := [(q5, .inr (6, [.null]))]) [5] (by decide) rfl
  have hKc := hK.sub (tys' := [(cI, .int)]) [0] rfl
  have hFc := va_free (wc := [(q5, .inr (6, [.null]))]) hD hS hA [5] rfl
  refine va_callv (va_runI (As := [.int 40]) (rest := [.ref q5, .ref h0]) ⟨hx, hb, hml, hown, hts⟩ (c_Row_init l D cI q5 H.size 40 40 (by decide) rfl (Nat.le_of_ble_eq_true rfl) rfl) (cwI 1 hts (am_GoodWs wc_Row_init) rfl rfl rfl (hts (.initialized RX6) (am_mem (i := 114) (by decide +kernel) (by decide +kernel))) (hts (.methodLink RX3 11 (⟨RX6, "<init>", "(I)V"⟩ : MethodName)) (am_mem (i := 244) (by decide +kernel) (by decide +kernel))) (hts (.instanceMethod (⟨RX6, "<init>", "(I)V"⟩ : MethodName)) (am_mem (i := 167) (by decide +kernel) (by decide +kernel))) rfl (by decide +kernel) ⟨Nat.le_of_ble_eq_true rfl, Nat.le_of_ble_eq_true rfl⟩) ⟨fun a U g mk q => by obtain ⟨q0, q1, qP, qK, qD, qN⟩ := q; exact ⟨q0, q1, qP, va_K.moved (u := U) (U := U.calling g mk a) (Vm.Alike.refl U.vm) qK, qD, am_nsm.same (u := U) rfl qN⟩, fun U hU hW => ⟨rfl, by rw [hU], by rw [hU]; exact hPc, va_K.moved hW.alike hKc, hDc.weaken (fun _ _ _ _ => trivial), hNw.warm hW⟩⟩ rfl rfl hl.1 rfl (lv_room (Nat.le_of_ble_eq_true rfl)) dc_Law_init_37 ⟨Nat.le_of_ble_eq_true rfl, Nat.le_of_ble_eq_true rfl⟩) hS (fun q _ h => hFc q h) hFc (fun u t H1 locs ht hvm hw hB hz1 hk1 hS => ?_)
  obtain ⟨f6, rfl⟩ : ∃ z, z = u := ⟨_, rfl⟩
  obtain ⟨hP1, hK1, hD1⟩ := hB
  rw [ht] at hP1
  obtain ⟨hP, hD⟩ := va_join (wr := [(h0, .inr (3, [.ref q1, .ref q3, .null, .null, .null, .null, .null, .null, .null, .int 0, .int 0])), (q1, .inr (6, [.ref (f2 1)])), ((f2 1), .inl (cI, 40, .inl (fun _ => 0))), (q3, .inr (6, [.ref (f4 1)])), ((f4 1), .inl (cI, 40, .inl (fun _ => 0)))]) (w1 := [(q5, .inr (6, [.ref (f6 1)])), ((f6 1), .inl (cI, 40, .inl (fun _ => 0)))]) hP hD [5] [0, 1, 2, 3, 4] rfl rfl (by decide) (by decide) hk1 hFc hP1 hD1
  generalize H1 = H at hP hS ⊢
  have hP : va_P D am_cl [(h0, .inr (3, [.ref q1, .ref q3, .null, .null, .null, .null, .null, .null, .null, .int 0, .int 0])), (q1, .inr (6, [.ref (f2 1)])), ((f2 1), .inl (cI, 40, .inl (fun _ => 0))), (q3, .inr (6, [.ref (f4 1)])), ((f4 1), .inl (cI, 40, .inl (fun _ => 0))), (q5, .inr (6, [.ref (f6 1)])), ((f6 1), .inl (cI, 40, .inl (fun _ => 0)))] H := hP
  have hD : va_D A [(h0, .inr (3, [.ref q1, .ref q3, .null, .null, .null, .null, .null, .null, .null, .int 0, .int 0])), (q1, .inr (6, [.ref (f2 1)])), ((f2 1), .inl (cI, 40, .inl (fun _ => 0))), (q3, .inr (6, [.ref (f4 1)])), ((f4 1), .inl (cI, 40, .inl (fun _ => 0))), (q5, .inr (6, [.ref (f6 1)])), ((f6 1), .inl (cI, 40, .inl (fun _ => 0)))] := hD
  refine W.widen (k := 6) (n := 123) (by omega) (by omega) ?_
  refine va_putF (D := D) (ci := 3) (v := .ref q5) (ty := tyX3 2) (C := RX3) (T := TX3) (N := 11) hx hb hts am_ws3 tyX3 tyX3_ok nmX3 hown hK hP hD hS 0 rfl rfl 2 (by decide) (hts (.fieldLink RX3 23 "StatuteBook$Law" "lengths" "LStatuteBook$Row;") (am_mem (i := 247) (by decide +kernel) (by decide +kernel))) (fun _ h9 => h9) rfl hin rfl (by decide +kernel) rfl rfl (Nat.le_of_ble_eq_true rfl) dc_Law_init_40 (fun H locs hP hD hS => ?_)
  have hP : va_P D am_cl [(h0, .inr (3, [.ref q1, .ref q3, .ref q5, .null, .null, .null, .null, .null, .null, .int 0, .int 0])), (q1, .inr (6, [.ref (f2 1)])), ((f2 1), .inl (cI, 40, .inl (fun _ => 0))), (q3, .inr (6, [.ref (f4 1)])), ((f4 1), .inl (cI, 40, .inl (fun _ => 0))), (q5, .inr (6, [.ref (f6 1)])), ((f6 1), .inl (cI, 40, .inl (fun _ => 0)))] H := hP
  have hD : va_D A [(h0, .inr (3, [.ref q1, .ref q3, .ref q5, .null, .null, .null, .null, .null, .null, .int 0, .int 0])), (q1, .inr (6, [.ref (f2 1)])), ((f2 1), .inl (cI, 40, .inl (fun _ => 0))), (q3, .inr (6, [.ref (f4 1)])), ((f4 1), .inl (cI, 40, .inl (fun _ => 0))), (q5, .inr (6, [.ref (f6 1)])), ((f6 1), .inl (cI, 40, .inl (fun _ => 0)))] := hD
  refine lv_aload_n hx hb dc_Law_init_43 rfl (lv_at hl 0 rfl) ?_
  refine va_new (ci := 6) (fs := [.null]) (C := RX6) (T := TX6) (N := 1) hx hb hts am_ws6 tyX6 tyX6_ok hown (hts (.classLink RX3 9 RX6) (am_mem (i := 243) (by decide +kernel) (by decide +kernel))) (hts (.instantiable RX6 1) (am_mem (i := 165) (by decide +kernel) (by decide +kernel))) (hts (.initialized RX6) (am_mem (i := 114) (by decide +kernel) (by decide +kernel))) hK hP hD hS hA rfl (fun j hj => by match j, hj with | 0, _ => rfl | j + 1, hj => exact absurd hj (by omega)) (Nat.le_of_ble_eq_true rfl) (Nat.le_of_ble_eq_true rfl) dc_Law_init_44 (fun q7 H hP hD hS => ?_)
  have hP : va_P D am_cl [(h0, .inr (3, [.ref q1, .ref q3, .ref q5, .null, .null, .null, .null, .null, .null, .int 0, .int 0])), (q1, .inr (6, [.ref (f2 1)])), ((f2 1), .inl (cI, 40, .inl (fun _ => 0))), (q3, .inr (6, [.ref (f4 1)])), ((f4 1), .inl (cI, 40, .inl (fun _ => 0))), (q5, .inr (6, [.ref (f6 1)])), ((f6 1), .inl (cI, 40, .inl (fun _ => 0))), (q7, .inr (6, [.null]))] H := hP
  have hD : va_D A [(h0, .inr (3, [.ref q1, .ref q3, .ref q5, .null, .null, .null, .null, .null, .null, .int 0, .int 0])), (q1, .inr (6, [.ref (f2 1)])), ((f2 1), .inl (cI, 40, .inl (fun _ => 0))), (q3, .inr (6, [.ref (f4 1)])), ((f4 1), .inl (cI, 40, .inl (fun _ => 0))), (q5, .inr (6, [.ref (f6 1)])), ((f6 1), .inl (cI, 40, .inl (fun _ => 0))), (q7, .inr (6, [.null]))] := hD
  refine W.widen (k := 7) (n := 124) (by omega) (by omega) ?_
  refine lv_dup hx hb dc_Law_init_47 rfl ?_
  refine lv_sipush (v := 240) hx hb dc_Law_init_48 (by decide) ?_
  have hPc := hP.sub (ws' := [(q7, .inr (6, [.null]))]) [7] rfl
  have hDc := hD.sub (ws' := [(q7, .inr (6, [.null]))]) [7] (by decide) rfl
  have hKc := hK.sub (tys' := [(cI, .int)]) [0] rfl
  have hFc := va_free (wc := [(q7, .inr (6, [.null]))]) hD hS hA [7] rfl
  refine va_callv (va_runI (As := [.int 240]) (rest := [.ref q7, .ref h0]) ⟨hx, hb, hml, hown, hts⟩ (c_Row_init l D cI q7 H.size 240 240 (by decide) rfl (Nat.le_of_ble_eq_true rfl) rfl) (cwI 1 hts (am_GoodWs wc_Row_init) rfl rfl rfl (hts (.initialized RX6) (am_mem (i := 114) (by decide +kernel) (by decide +kernel))) (hts (.methodLink RX3 11 (⟨RX6, "<init>", "(I)V"⟩ : MethodName)) (am_mem (i := 244) (by decide +kernel) (by decide +kernel))) (hts (.instanceMethod (⟨RX6, "<init>", "(I)V"⟩ : MethodName)) (am_mem (i := 167) (by decide +kernel) (by decide +kernel))) rfl (by decide +kernel) ⟨Nat.le_of_ble_eq_true rfl, Nat.le_of_ble_eq_true rfl⟩) ⟨fun a U g mk q => by obtain ⟨q0, q1, qP, qK, qD, qN⟩ := q; exact ⟨q0, q1, qP, va_K.moved (u := U) (U := U.calling g mk a) (Vm.Alike.refl U.vm) qK, qD, am_nsm.same (u := U) rfl qN⟩, fun U hU hW => ⟨rfl, by rw [hU], by rw [hU]; exact hPc, va_K.moved hW.alike hKc, hDc.weaken (fun _ _ _ _ => trivial), hNw.warm hW⟩⟩ rfl rfl hl.1 rfl (lv_room (Nat.le_of_ble_eq_true rfl)) dc_Law_init_51 ⟨Nat.le_of_ble_eq_true rfl, Nat.le_of_ble_eq_true rfl⟩) hS (fun q _ h => hFc q h) hFc (fun u t H1 locs ht hvm hw hB hz1 hk1 hS => ?_)
  obtain ⟨f8, rfl⟩ : ∃ z, z = u := ⟨_, rfl⟩
  obtain ⟨hP1, hK1, hD1⟩ := hB
  rw [ht] at hP1
  obtain ⟨hP, hD⟩ := va_join (wr := [(h0, .inr (3, [.ref q1, .ref q3, .ref q5, .null, .null, .null, .null, .null, .null, .int 0, .int 0])), (q1, .inr (6, [.ref (f2 1)])), ((f2 1), .inl (cI, 40, .inl (fun _ => 0))), (q3, .inr (6, [.ref (f4 1)])), ((f4 1), .inl (cI, 40, .inl (fun _ => 0))), (q5, .inr (6, [.ref (f6 1)])), ((f6 1), .inl (cI, 40, .inl (fun _ => 0)))]) (w1 := [(q7, .inr (6, [.ref (f8 1)])), ((f8 1), .inl (cI, 240, .inl (fun _ => 0)))]) hP hD [7] [0, 1, 2, 3, 4, 5, 6] rfl rfl (by decide) (by decide) hk1 hFc hP1 hD1
  generalize H1 = H at hP hS ⊢
  have hP : va_P D am_cl [(h0, .inr (3, [.ref q1, .ref q3, .ref q5, .null, .null, .null, .null, .null, .null, .int 0, .int 0])), (q1, .inr (6, [.ref (f2 1)])), ((f2 1), .inl (cI, 40, .inl (fun _ => 0))), (q3, .inr (6, [.ref (f4 1)])), ((f4 1), .inl (cI, 40, .inl (fun _ => 0))), (q5, .inr (6, [.ref (f6 1)])), ((f6 1), .inl (cI, 40, .inl (fun _ => 0))), (q7, .inr (6, [.ref (f8 1)])), ((f8 1), .inl (cI, 240, .inl (fun _ => 0)))] H := hP
  have hD : va_D A [(h0, .inr (3, [.ref q1, .ref q3, .ref q5, .null, .null, .null, .null, .null, .null, .int 0, .int 0])), (q1, .inr (6, [.ref (f2 1)])), ((f2 1), .inl (cI, 40, .inl (fun _ => 0))), (q3, .inr (6, [.ref (f4 1)])), ((f4 1), .inl (cI, 40, .inl (fun _ => 0))), (q5, .inr (6, [.ref (f6 1)])), ((f6 1), .inl (cI, 40, .inl (fun _ => 0))), (q7, .inr (6, [.ref (f8 1)])), ((f8 1), .inl (cI, 240, .inl (fun _ => 0)))] := hD
  refine W.widen (k := 8) (n := 364) (by omega) (by omega) ?_
  refine va_putF (D := D) (ci := 3) (v := .ref q7) (ty := tyX3 3) (C := RX3) (T := TX3) (N := 11) hx hb hts am_ws3 tyX3 tyX3_ok nmX3 hown hK hP hD hS 0 rfl rfl 3 (by decide) (hts (.fieldLink RX3 26 "StatuteBook$Law" "texts" "LStatuteBook$Row;") (am_mem (i := 248) (by decide +kernel) (by decide +kernel))) (fun _ h9 => h9) rfl hin rfl (by decide +kernel) rfl rfl (Nat.le_of_ble_eq_true rfl) dc_Law_init_54 (fun H locs hP hD hS => ?_)
  have hP : va_P D am_cl [(h0, .inr (3, [.ref q1, .ref q3, .ref q5, .ref q7, .null, .null, .null, .null, .null, .int 0, .int 0])), (q1, .inr (6, [.ref (f2 1)])), ((f2 1), .inl (cI, 40, .inl (fun _ => 0))), (q3, .inr (6, [.ref (f4 1)])), ((f4 1), .inl (cI, 40, .inl (fun _ => 0))), (q5, .inr (6, [.ref (f6 1)])), ((f6 1), .inl (cI, 40, .inl (fun _ => 0))), (q7, .inr (6, [.ref (f8 1)])), ((f8 1), .inl (cI, 240, .inl (fun _ => 0)))] H := hP
  have hD : va_D A [(h0, .inr (3, [.ref q1, .ref q3, .ref q5, .ref q7, .null, .null, .null, .null, .null, .int 0, .int 0])), (q1, .inr (6, [.ref (f2 1)])), ((f2 1), .inl (cI, 40, .inl (fun _ => 0))), (q3, .inr (6, [.ref (f4 1)])), ((f4 1), .inl (cI, 40, .inl (fun _ => 0))), (q5, .inr (6, [.ref (f6 1)])), ((f6 1), .inl (cI, 40, .inl (fun _ => 0))), (q7, .inr (6, [.ref (f8 1)])), ((f8 1), .inl (cI, 240, .inl (fun _ => 0)))] := hD
  refine lv_aload_n hx hb dc_Law_init_57 rfl (lv_at hl 0 rfl) ?_
  refine va_new (ci := 6) (fs := [.null]) (C := RX6) (T := TX6) (N := 1) hx hb hts am_ws6 tyX6 tyX6_ok hown (hts (.classLink RX3 9 RX6) (am_mem (i := 243) (by decide +kernel) (by decide +kernel))) (hts (.instantiable RX6 1) (am_mem (i := 165) (by decide +kernel) (by decide +kernel))) (hts (.initialized RX6) (am_mem (i := 114) (by decide +kernel) (by decide +kernel))) hK hP hD hS hA rfl (fun j hj => by match j, hj with | 0, _ => rfl | j + 1, hj => exact absurd hj (by omega)) (Nat.le_of_ble_eq_true rfl) (Nat.le_of_ble_eq_true rfl) dc_Law_init_58 (fun q9 H hP hD hS => ?_)
  have hP : va_P D am_cl [(h0, .inr (3, [.ref q1, .ref q3, .ref q5, .ref q7, .null, .null, .null, .null, .null, .int 0, .int 0])), (q1, .inr (6, [.ref (f2 1)])), ((f2 1), .inl (cI, 40, .inl (fun _ => 0))), (q3, .inr (6, [.ref (f4 1)])), ((f4 1), .inl (cI, 40, .inl (fun _ => 0))), (q5, .inr (6, [.ref (f6 1)])), ((f6 1), .inl (cI, 40, .inl (fun _ => 0))), (q7, .inr (6, [.ref (f8 1)])), ((f8 1), .inl (cI, 240, .inl (fun _ => 0))), (q9, .inr (6, [.null]))] H := hP
  have hD : va_D A [(h0, .inr (3, [.ref q1, .ref q3, .ref q5, .ref q7, .null, .null, .null, .null, .null, .int 0, .int 0])), (q1, .inr (6, [.ref (f2 1)])), ((f2 1), .inl (cI, 40, .inl (fun _ => 0))), (q3, .inr (6, [.ref (f4 1)])), ((f4 1), .inl (cI, 40, .inl (fun _ => 0))), (q5, .inr (6, [.ref (f6 1)])), ((f6 1), .inl (cI, 40, .inl (fun _ => 0))), (q7, .inr (6, [.ref (f8 1)])), ((f8 1), .inl (cI, 240, .inl (fun _ => 0))), (q9, .inr (6, [.null]))] := hD
  refine W.widen (k := 9) (n := 365) (by omega) (by omega) ?_
  refine lv_dup hx hb dc_Law_init_61 rfl ?_
  refine lv_bipush (v := 40) hx hb dc_Law_init_62 (by decide) ?_
  have hPc := hP.sub (ws' := [(q9, .inr (6, [.null]))]) [9] rfl
  have hDc := hD.sub (ws' := [(q9, .inr (6, [.null]))]) [9] (by decide) rfl
  have hKc := hK.sub (tys' := [(cI, .int)]) [0] rfl
  have hFc := va_free (wc := [(q9, .inr (6, [.null]))]) hD hS hA [9] rfl
  refine va_callv (va_runI (As := [.int 40]) (rest := [.ref q9, .ref h0]) ⟨hx, hb, hml, hown, hts⟩ (c_Row_init l D cI q9 H.size 40 40 (by decide) rfl (Nat.le_of_ble_eq_true rfl) rfl) (cwI 1 hts (am_GoodWs wc_Row_init) rfl rfl rfl (hts (.initialized RX6) (am_mem (i := 114) (by decide +kernel) (by decide +kernel))) (hts (.methodLink RX3 11 (⟨RX6, "<init>", "(I)V"⟩ : MethodName)) (am_mem (i := 244) (by decide +kernel) (by decide +kernel))) (hts (.instanceMethod (⟨RX6, "<init>", "(I)V"⟩ : MethodName)) (am_mem (i := 167) (by decide +kernel) (by decide +kernel))) rfl (by decide +kernel) ⟨Nat.le_of_ble_eq_true rfl, Nat.le_of_ble_eq_true rfl⟩) ⟨fun a U g mk q => by obtain ⟨q0, q1, qP, qK, qD, qN⟩ := q; exact ⟨q0, q1, qP, va_K.moved (u := U) (U := U.calling g mk a) (Vm.Alike.refl U.vm) qK, qD, am_nsm.same (u := U) rfl qN⟩, fun U hU hW => ⟨rfl, by rw [hU], by rw [hU]; exact hPc, va_K.moved hW.alike hKc, hDc.weaken (fun _ _ _ _ => trivial), hNw.warm hW⟩⟩ rfl rfl hl.1 rfl (lv_room (Nat.le_of_ble_eq_true rfl)) dc_Law_init_64 ⟨Nat.le_of_ble_eq_true rfl, Nat.le_of_ble_eq_true rfl⟩) hS (fun q _ h => hFc q h) hFc (fun u t H1 locs ht hvm hw hB hz1 hk1 hS => ?_)
  obtain ⟨f10, rfl⟩ : ∃ z, z = u := ⟨_, rfl⟩
  obtain ⟨hP1, hK1, hD1⟩ := hB
  rw [ht] at hP1
  obtain ⟨hP, hD⟩ := va_join (wr := [(h0, .inr (3, [.ref q1, .ref q3, .ref q5, .ref q7, .null, .null, .null, .null, .null, .int 0, .int 0])), (q1, .inr (6, [.ref (f2 1)])), ((f2 1), .inl (cI, 40, .inl (fun _ => 0))), (q3, .inr (6, [.ref (f4 1)])), ((f4 1), .inl (cI, 40, .inl (fun _ => 0))), (q5, .inr (6, [.ref (f6 1)])), ((f6 1), .inl (cI, 40, .inl (fun _ => 0))), (q7, .inr (6, [.ref (f8 1)])), ((f8 1), .inl (cI, 240, .inl (fun _ => 0)))]) (w1 := [(q9, .inr (6, [.ref (f10 1)])), ((f10 1), .inl (cI, 40, .inl (fun _ => 0)))]) hP hD [9] [0, 1, 2, 3, 4, 5, 6, 7, 8] rfl rfl (by decide) (by decide) hk1 hFc hP1 hD1
  generalize H1 = H at hP hS ⊢
  have hP : va_P D am_cl [(h0, .inr (3, [.ref q1, .ref q3, .ref q5, .ref q7, .null, .null, .null, .null, .null, .int 0, .int 0])), (q1, .inr (6, [.ref (f2 1)])), ((f2 1), .inl (cI, 40, .inl (fun _ => 0))), (q3, .inr (6, [.ref (f4 1)])), ((f4 1), .inl (cI, 40, .inl (fun _ => 0))), (q5, .inr (6, [.ref (f6 1)])), ((f6 1), .inl (cI, 40, .inl (fun _ => 0))), (q7, .inr (6, [.ref (f8 1)])), ((f8 1), .inl (cI, 240, .inl (fun _ => 0))), (q9, .inr (6, [.ref (f10 1)])), ((f10 1), .inl (cI, 40, .inl (fun _ => 0)))] H := hP
  have hD : va_D A [(h0, .inr (3, [.ref q1, .ref q3, .ref q5, .ref q7, .null, .null, .null, .null, .null, .int 0, .int 0])), (q1, .inr (6, [.ref (f2 1)])), ((f2 1), .inl (cI, 40, .inl (fun _ => 0))), (q3, .inr (6, [.ref (f4 1)])), ((f4 1), .inl (cI, 40, .inl (fun _ => 0))), (q5, .inr (6, [.ref (f6 1)])), ((f6 1), .inl (cI, 40, .inl (fun _ => 0))), (q7, .inr (6, [.ref (f8 1)])), ((f8 1), .inl (cI, 240, .inl (fun _ => 0))), (q9, .inr (6, [.ref (f10 1)])), ((f10 1), .inl (cI, 40, .inl (fun _ => 0)))] := hD
  refine W.widen (k := 10) (n := 405) (by omega) (by omega) ?_
  refine va_putF (D := D) (ci := 3) (v := .ref q9) (ty := tyX3 4) (C := RX3) (T := TX3) (N := 11) hx hb hts am_ws3 tyX3 tyX3_ok nmX3 hown hK hP hD hS 0 rfl rfl 4 (by decide) (hts (.fieldLink RX3 29 "StatuteBook$Law" "order" "LStatuteBook$Row;") (am_mem (i := 249) (by decide +kernel) (by decide +kernel))) (fun _ h9 => h9) rfl hin rfl (by decide +kernel) rfl rfl (Nat.le_of_ble_eq_true rfl) dc_Law_init_67 (fun H locs hP hD hS => ?_)
  have hP : va_P D am_cl [(h0, .inr (3, [.ref q1, .ref q3, .ref q5, .ref q7, .ref q9, .null, .null, .null, .null, .int 0, .int 0])), (q1, .inr (6, [.ref (f2 1)])), ((f2 1), .inl (cI, 40, .inl (fun _ => 0))), (q3, .inr (6, [.ref (f4 1)])), ((f4 1), .inl (cI, 40, .inl (fun _ => 0))), (q5, .inr (6, [.ref (f6 1)])), ((f6 1), .inl (cI, 40, .inl (fun _ => 0))), (q7, .inr (6, [.ref (f8 1)])), ((f8 1), .inl (cI, 240, .inl (fun _ => 0))), (q9, .inr (6, [.ref (f10 1)])), ((f10 1), .inl (cI, 40, .inl (fun _ => 0)))] H := hP
  have hD : va_D A [(h0, .inr (3, [.ref q1, .ref q3, .ref q5, .ref q7, .ref q9, .null, .null, .null, .null, .int 0, .int 0])), (q1, .inr (6, [.ref (f2 1)])), ((f2 1), .inl (cI, 40, .inl (fun _ => 0))), (q3, .inr (6, [.ref (f4 1)])), ((f4 1), .inl (cI, 40, .inl (fun _ => 0))), (q5, .inr (6, [.ref (f6 1)])), ((f6 1), .inl (cI, 40, .inl (fun _ => 0))), (q7, .inr (6, [.ref (f8 1)])), ((f8 1), .inl (cI, 240, .inl (fun _ => 0))), (q9, .inr (6, [.ref (f10 1)])), ((f10 1), .inl (cI, 40, .inl (fun _ => 0)))] := hD
  refine lv_aload_n hx hb dc_Law_init_70 rfl (lv_at hl 0 rfl) ?_
  refine va_new (ci := 6) (fs := [.null]) (C := RX6) (T := TX6) (N := 1) hx hb hts am_ws6 tyX6 tyX6_ok hown (hts (.classLink RX3 9 RX6) (am_mem (i := 243) (by decide +kernel) (by decide +kernel))) (hts (.instantiable RX6 1) (am_mem (i := 165) (by decide +kernel) (by decide +kernel))) (hts (.initialized RX6) (am_mem (i := 114) (by decide +kernel) (by decide +kernel))) hK hP hD hS hA rfl (fun j hj => by match j, hj with | 0, _ => rfl | j + 1, hj => exact absurd hj (by omega)) (Nat.le_of_ble_eq_true rfl) (Nat.le_of_ble_eq_true rfl) dc_Law_init_71 (fun q11 H hP hD hS => ?_)
  have hP : va_P D am_cl [(h0, .inr (3, [.ref q1, .ref q3, .ref q5, .ref q7, .ref q9, .null, .null, .null, .null, .int 0, .int 0])), (q1, .inr (6, [.ref (f2 1)])), ((f2 1), .inl (cI, 40, .inl (fun _ => 0))), (q3, .inr (6, [.ref (f4 1)])), ((f4 1), .inl (cI, 40, .inl (fun _ => 0))), (q5, .inr (6, [.ref (f6 1)])), ((f6 1), .inl (cI, 40, .inl (fun _ => 0))), (q7, .inr (6, [.ref (f8 1)])), ((f8 1), .inl (cI, 240, .inl (fun _ => 0))), (q9, .inr (6, [.ref (f10 1)])), ((f10 1), .inl (cI, 40, .inl (fun _ => 0))), (q11, .inr (6, [.null]))] H := hP
  have hD : va_D A [(h0, .inr (3, [.ref q1, .ref q3, .ref q5, .ref q7, .ref q9, .null, .null, .null, .null, .int 0, .int 0])), (q1, .inr (6, [.ref (f2 1)])), ((f2 1), .inl (cI, 40, .inl (fun _ => 0))), (q3, .inr (6, [.ref (f4 1)])), ((f4 1), .inl (cI, 40, .inl (fun _ => 0))), (q5, .inr (6, [.ref (f6 1)])), ((f6 1), .inl (cI, 40, .inl (fun _ => 0))), (q7, .inr (6, [.ref (f8 1)])), ((f8 1), .inl (cI, 240, .inl (fun _ => 0))), (q9, .inr (6, [.ref (f10 1)])), ((f10 1), .inl (cI, 40, .inl (fun _ => 0))), (q11, .inr (6, [.null]))] := hD
  refine W.widen (k := 11) (n := 406) (by omega) (by omega) ?_
  refine lv_dup hx hb dc_Law_init_74 rfl ?_
  refine lv_bipush (v := 120) hx hb dc_Law_init_75 (by decide) ?_
  have hPc := hP.sub (ws' := [(q11, .inr (6, [.null]))]) [11] rfl
  have hDc := hD.sub (ws' := [(q11, .inr (6, [.null]))]) [11] (by decide) rfl
  have hKc := hK.sub (tys' := [(cI, .int)]) [0] rfl
  have hFc := va_free (wc := [(q11, .inr (6, [.null]))]) hD hS hA [11] rfl
  refine va_callv (va_runI (As := [.int 120]) (rest := [.ref q11, .ref h0]) ⟨hx, hb, hml, hown, hts⟩ (c_Row_init l D cI q11 H.size 120 120 (by decide) rfl (Nat.le_of_ble_eq_true rfl) rfl) (cwI 1 hts (am_GoodWs wc_Row_init) rfl rfl rfl (hts (.initialized RX6) (am_mem (i := 114) (by decide +kernel) (by decide +kernel))) (hts (.methodLink RX3 11 (⟨RX6, "<init>", "(I)V"⟩ : MethodName)) (am_mem (i := 244) (by decide +kernel) (by decide +kernel))) (hts (.instanceMethod (⟨RX6, "<init>", "(I)V"⟩ : MethodName)) (am_mem (i := 167) (by decide +kernel) (by decide +kernel))) rfl (by decide +kernel) ⟨Nat.le_of_ble_eq_true rfl, Nat.le_of_ble_eq_true rfl⟩) ⟨fun a U g mk q => by obtain ⟨q0, q1, qP, qK, qD, qN⟩ := q; exact ⟨q0, q1, qP, va_K.moved (u := U) (U := U.calling g mk a) (Vm.Alike.refl U.vm) qK, qD, am_nsm.same (u := U) rfl qN⟩, fun U hU hW => ⟨rfl, by rw [hU], by rw [hU]; exact hPc, va_K.moved hW.alike hKc, hDc.weaken (fun _ _ _ _ => trivial), hNw.warm hW⟩⟩ rfl rfl hl.1 rfl (lv_room (Nat.le_of_ble_eq_true rfl)) dc_Law_init_77 ⟨Nat.le_of_ble_eq_true rfl, Nat.le_of_ble_eq_true rfl⟩) hS (fun q _ h => hFc q h) hFc (fun u t H1 locs ht hvm hw hB hz1 hk1 hS => ?_)
  obtain ⟨f12, rfl⟩ : ∃ z, z = u := ⟨_, rfl⟩
  obtain ⟨hP1, hK1, hD1⟩ := hB
  rw [ht] at hP1
  obtain ⟨hP, hD⟩ := va_join (wr := [(h0, .inr (3, [.ref q1, .ref q3, .ref q5, .ref q7, .ref q9, .null, .null, .null, .null, .int 0, .int 0])), (q1, .inr (6, [.ref (f2 1)])), ((f2 1), .inl (cI, 40, .inl (fun _ => 0))), (q3, .inr (6, [.ref (f4 1)])), ((f4 1), .inl (cI, 40, .inl (fun _ => 0))), (q5, .inr (6, [.ref (f6 1)])), ((f6 1), .inl (cI, 40, .inl (fun _ => 0))), (q7, .inr (6, [.ref (f8 1)])), ((f8 1), .inl (cI, 240, .inl (fun _ => 0))), (q9, .inr (6, [.ref (f10 1)])), ((f10 1), .inl (cI, 40, .inl (fun _ => 0)))]) (w1 := [(q11, .inr (6, [.ref (f12 1)])), ((f12 1), .inl (cI, 120, .inl (fun _ => 0)))]) hP hD [11] [0, 1, 2, 3, 4, 5, 6, 7, 8, 9, 10] rfl rfl (by decide) (by decide) hk1 hFc hP1 hD1
  generalize H1 = H at hP hS ⊢
  have hP : va_P D am_cl [(h0, .inr (3, [.ref q1, .ref q3, .ref q5, .ref q7, .ref q9, .null, .null, .null, .null, .int 0, .int 0])), (q1, .inr (6, [.ref (f2 1)])), ((f2 1), .inl (cI, 40, .inl (fun _ => 0))), (q3, .inr (6, [.ref (f4 1)])), ((f4 1), .inl (cI, 40, .inl (fun _ => 0))), (q5, .inr (6, [.ref (f6 1)])), ((f6 1), .inl (cI, 40, .inl (fun _ => 0))), (q7, .inr (6, [.ref (f8 1)])), ((f8 1), .inl (cI, 240, .inl (fun _ => 0))), (q9, .inr (6, [.ref (f10 1)])), ((f10 1), .inl (cI, 40, .inl (fun _ => 0))), (q11, .inr (6, [.ref (f12 1)])), ((f12 1), .inl (cI, 120, .inl (fun _ => 0)))] H := hP
  have hD : va_D A [(h0, .inr (3, [.ref q1, .ref q3, .ref q5, .ref q7, .ref q9, .null, .null, .null, .null, .int 0, .int 0])), (q1, .inr (6, [.ref (f2 1)])), ((f2 1), .inl (cI, 40, .inl (fun _ => 0))), (q3, .inr (6, [.ref (f4 1)])), ((f4 1), .inl (cI, 40, .inl (fun _ => 0))), (q5, .inr (6, [.ref (f6 1)])), ((f6 1), .inl (cI, 40, .inl (fun _ => 0))), (q7, .inr (6, [.ref (f8 1)])), ((f8 1), .inl (cI, 240, .inl (fun _ => 0))), (q9, .inr (6, [.ref (f10 1)])), ((f10 1), .inl (cI, 40, .inl (fun _ => 0))), (q11, .inr (6, [.ref (f12 1)])), ((f12 1), .inl (cI, 120, .inl (fun _ => 0)))] := hD
  refine W.widen (k := 12) (n := 526) (by omega) (by omega) ?_
  refine va_putF (D := D) (ci := 3) (v := .ref q11) (ty := tyX3 5) (C := RX3) (T := TX3) (N := 11) hx hb hts am_ws3 tyX3 tyX3_ok nmX3 hown hK hP hD hS 0 rfl rfl 5 (by decide) (hts (.fieldLink RX3 32 "StatuteBook$Law" "statuses" "LStatuteBook$Row;") (am_mem (i := 250) (by decide +kernel) (by decide +kernel))) (fun _ h9 => h9) rfl hin rfl (by decide +kernel) rfl rfl (Nat.le_of_ble_eq_true rfl) dc_Law_init_80 (fun H locs hP hD hS => ?_)
  have hP : va_P D am_cl [(h0, .inr (3, [.ref q1, .ref q3, .ref q5, .ref q7, .ref q9, .ref q11, .null, .null, .null, .int 0, .int 0])), (q1, .inr (6, [.ref (f2 1)])), ((f2 1), .inl (cI, 40, .inl (fun _ => 0))), (q3, .inr (6, [.ref (f4 1)])), ((f4 1), .inl (cI, 40, .inl (fun _ => 0))), (q5, .inr (6, [.ref (f6 1)])), ((f6 1), .inl (cI, 40, .inl (fun _ => 0))), (q7, .inr (6, [.ref (f8 1)])), ((f8 1), .inl (cI, 240, .inl (fun _ => 0))), (q9, .inr (6, [.ref (f10 1)])), ((f10 1), .inl (cI, 40, .inl (fun _ => 0))), (q11, .inr (6, [.ref (f12 1)])), ((f12 1), .inl (cI, 120, .inl (fun _ => 0)))] H := hP
  have hD : va_D A [(h0, .inr (3, [.ref q1, .ref q3, .ref q5, .ref q7, .ref q9, .ref q11, .null, .null, .null, .int 0, .int 0])), (q1, .inr (6, [.ref (f2 1)])), ((f2 1), .inl (cI, 40, .inl (fun _ => 0))), (q3, .inr (6, [.ref (f4 1)])), ((f4 1), .inl (cI, 40, .inl (fun _ => 0))), (q5, .inr (6, [.ref (f6 1)])), ((f6 1), .inl (cI, 40, .inl (fun _ => 0))), (q7, .inr (6, [.ref (f8 1)])), ((f8 1), .inl (cI, 240, .inl (fun _ => 0))), (q9, .inr (6, [.ref (f10 1)])), ((f10 1), .inl (cI, 40, .inl (fun _ => 0))), (q11, .inr (6, [.ref (f12 1)])), ((f12 1), .inl (cI, 120, .inl (fun _ => 0)))] := hD
  refine lv_aload_n hx hb dc_Law_init_83 rfl (lv_at hl 0 rfl) ?_
  refine va_new (ci := 6) (fs := [.null]) (C := RX6) (T := TX6) (N := 1) hx hb hts am_ws6 tyX6 tyX6_ok hown (hts (.classLink RX3 9 RX6) (am_mem (i := 243) (by decide +kernel) (by decide +kernel))) (hts (.instantiable RX6 1) (am_mem (i := 165) (by decide +kernel) (by decide +kernel))) (hts (.initialized RX6) (am_mem (i := 114) (by decide +kernel) (by decide +kernel))) hK hP hD hS hA rfl (fun j hj => by match j, hj with | 0, _ => rfl | j + 1, hj => exact absurd hj (by omega)) (Nat.le_of_ble_eq_true rfl) (Nat.le_of_ble_eq_true rfl) dc_Law_init_84 (fun q13 H hP hD hS => ?_)
  have hP : va_P D am_cl [(h0, .inr (3, [.ref q1, .ref q3, .ref q5, .ref q7, .ref q9, .ref q11, .null, .null, .null, .int 0, .int 0])), (q1, .inr (6, [.ref (f2 1)])), ((f2 1), .inl (cI, 40, .inl (fun _ => 0))), (q3, .inr (6, [.ref (f4 1)])), ((f4 1), .inl (cI, 40, .inl (fun _ => 0))), (q5, .inr (6, [.ref (f6 1)])), ((f6 1), .inl (cI, 40, .inl (fun _ => 0))), (q7, .inr (6, [.ref (f8 1)])), ((f8 1), .inl (cI, 240, .inl (fun _ => 0))), (q9, .inr (6, [.ref (f10 1)])), ((f10 1), .inl (cI, 40, .inl (fun _ => 0))), (q11, .inr (6, [.ref (f12 1)])), ((f12 1), .inl (cI, 120, .inl (fun _ => 0))), (q13, .inr (6, [.null]))] H := hP
  have hD : va_D A [(h0, .inr (3, [.ref q1, .ref q3, .ref q5, .ref q7, .ref q9, .ref q11, .null, .null, .null, .int 0, .int 0])), (q1, .inr (6, [.ref (f2 1)])), ((f2 1), .inl (cI, 40, .inl (fun _ => 0))), (q3, .inr (6, [.ref (f4 1)])), ((f4 1), .inl (cI, 40, .inl (fun _ => 0))), (q5, .inr (6, [.ref (f6 1)])), ((f6 1), .inl (cI, 40, .inl (fun _ => 0))), (q7, .inr (6, [.ref (f8 1)])), ((f8 1), .inl (cI, 240, .inl (fun _ => 0))), (q9, .inr (6, [.ref (f10 1)])), ((f10 1), .inl (cI, 40, .inl (fun _ => 0))), (q11, .inr (6, [.ref (f12 1)])), ((f12 1), .inl (cI, 120, .inl (fun _ => 0))), (q13, .inr (6, [.null]))] := hD
  refine W.widen (k := 13) (n := 527) (by omega) (by omega) ?_
  refine lv_dup hx hb dc_Law_init_87 rfl ?_
  refine lv_bipush (v := 120) hx hb dc_Law_init_88 (by decide) ?_
  have hPc := hP.sub (ws' := [(q13, .inr (6, [.null]))]) [13] rfl
  have hDc := hD.sub (ws' := [(q13, .inr (6, [.null]))]) [13] (by decide) rfl
  have hKc := hK.sub (tys' := [(cI, .int)]) [0] rfl
  have hFc := va_free (wc := [(q13, .inr (6, [.null]))]) hD hS hA [13] rfl
  refine va_callv (va_runI (As := [.int 120]) (rest := [.ref q13, .ref h0]) ⟨hx, hb, hml, hown, hts⟩ (c_Row_init l D cI q13 H.size 120 120 (by decide) rfl (Nat.le_of_ble_eq_true rfl) rfl) (cwI 1 hts (am_GoodWs wc_Row_init) rfl rfl rfl (hts (.initialized RX6) (am_mem (i := 114) (by decide +kernel) (by decide +kernel))) (hts (.methodLink RX3 11 (⟨RX6, "<init>", "(I)V"⟩ : MethodName)) (am_mem (i := 244) (by decide +kernel) (by decide +kernel))) (hts (.instanceMethod (⟨RX6, "<init>", "(I)V"⟩ : MethodName)) (am_mem (i := 167) (by decide +kernel) (by decide +kernel))) rfl (by decide +kernel) ⟨Nat.le_of_ble_eq_true rfl, Nat.le_of_ble_eq_true rfl⟩) ⟨fun a U g mk q => by obtain ⟨q0, q1, qP, qK, qD, qN⟩ := q; exact ⟨q0, q1, qP, va_K.moved (u := U) (U := U.calling g mk a) (Vm.Alike.refl U.vm) qK, qD, am_nsm.same (u := U) rfl qN⟩, fun U hU hW => ⟨rfl, by rw [hU], by rw [hU]; exact hPc, va_K.moved hW.alike hKc, hDc.weaken (fun _ _ _ _ => trivial), hNw.warm hW⟩⟩ rfl rfl hl.1 rfl (lv_room (Nat.le_of_ble_eq_true rfl)) dc_Law_init_90 ⟨Nat.le_of_ble_eq_true rfl, Nat.le_of_ble_eq_true rfl⟩) hS (fun q _ h => hFc q h) hFc (fun u t H1 locs ht hvm hw hB hz1 hk1 hS => ?_)
  obtain ⟨f14, rfl⟩ : ∃ z, z = u := ⟨_, rfl⟩
  obtain ⟨hP1, hK1, hD1⟩ := hB
  rw [ht] at hP1
  obtain ⟨hP, hD⟩ := va_join (wr := [(h0, .inr (3, [.ref q1, .ref q3, .ref q5, .ref q7, .ref q9, .ref q11, .null, .null, .null, .int 0, .int 0])), (q1, .inr (6, [.ref (f2 1)])), ((f2 1), .inl (cI, 40, .inl (fun _ => 0))), (q3, .inr (6, [.ref (f4 1)])), ((f4 1), .inl (cI, 40, .inl (fun _ => 0))), (q5, .inr (6, [.ref (f6 1)])), ((f6 1), .inl (cI, 40, .inl (fun _ => 0))), (q7, .inr (6, [.ref (f8 1)])), ((f8 1), .inl (cI, 240, .inl (fun _ => 0))), (q9, .inr (6, [.ref (f10 1)])), ((f10 1), .inl (cI, 40, .inl (fun _ => 0))), (q11, .inr (6, [.ref (f12 1)])), ((f12 1), .inl (cI, 120, .inl (fun _ => 0)))]) (w1 := [(q13, .inr (6, [.ref (f14 1)])), ((f14 1), .inl (cI, 120, .inl (fun _ => 0)))]) hP hD [13] [0, 1, 2, 3, 4, 5, 6, 7, 8, 9, 10, 11, 12] rfl rfl (by decide) (by decide) hk1 hFc hP1 hD1
  generalize H1 = H at hP hS ⊢
  have hP : va_P D am_cl [(h0, .inr (3, [.ref q1, .ref q3, .ref q5, .ref q7, .ref q9, .ref q11, .null, .null, .null, .int 0, .int 0])), (q1, .inr (6, [.ref (f2 1)])), ((f2 1), .inl (cI, 40, .inl (fun _ => 0))), (q3, .inr (6, [.ref (f4 1)])), ((f4 1), .inl (cI, 40, .inl (fun _ => 0))), (q5, .inr (6, [.ref (f6 1)])), ((f6 1), .inl (cI, 40, .inl (fun _ => 0))), (q7, .inr (6, [.ref (f8 1)])), ((f8 1), .inl (cI, 240, .inl (fun _ => 0))), (q9, .inr (6, [.ref (f10 1)])), ((f10 1), .inl (cI, 40, .inl (fun _ => 0))), (q11, .inr (6, [.ref (f12 1)])), ((f12 1), .inl (cI, 120, .inl (fun _ => 0))), (q13, .inr (6, [.ref (f14 1)])), ((f14 1), .inl (cI, 120, .inl (fun _ => 0)))] H := hP
  have hD : va_D A [(h0, .inr (3, [.ref q1, .ref q3, .ref q5, .ref q7, .ref q9, .ref q11, .null, .null, .null, .int 0, .int 0])), (q1, .inr (6, [.ref (f2 1)])), ((f2 1), .inl (cI, 40, .inl (fun _ => 0))), (q3, .inr (6, [.ref (f4 1)])), ((f4 1), .inl (cI, 40, .inl (fun _ => 0))), (q5, .inr (6, [.ref (f6 1)])), ((f6 1), .inl (cI, 40, .inl (fun _ => 0))), (q7, .inr (6, [.ref (f8 1)])), ((f8 1), .inl (cI, 240, .inl (fun _ => 0))), (q9, .inr (6, [.ref (f10 1)])), ((f10 1), .inl (cI, 40, .inl (fun _ => 0))), (q11, .inr (6, [.ref (f12 1)])), ((f12 1), .inl (cI, 120, .inl (fun _ => 0))), (q13, .inr (6, [.ref (f14 1)])), ((f14 1), .inl (cI, 120, .inl (fun _ => 0)))] := hD
  refine W.widen (k := 14) (n := 647) (by omega) (by omega) ?_
  refine va_putF (D := D) (ci := 3) (v := .ref q13) (ty := tyX3 6) (C := RX3) (T := TX3) (N := 11) hx hb hts am_ws3 tyX3 tyX3_ok nmX3 hown hK hP hD hS 0 rfl rfl 6 (by decide) (hts (.fieldLink RX3 35 "StatuteBook$Law" "affected" "LStatuteBook$Row;") (am_mem (i := 251) (by decide +kernel) (by decide +kernel))) (fun _ h9 => h9) rfl hin rfl (by decide +kernel) rfl rfl (Nat.le_of_ble_eq_true rfl) dc_Law_init_93 (fun H locs hP hD hS => ?_)
  have hP : va_P D am_cl [(h0, .inr (3, [.ref q1, .ref q3, .ref q5, .ref q7, .ref q9, .ref q11, .ref q13, .null, .null, .int 0, .int 0])), (q1, .inr (6, [.ref (f2 1)])), ((f2 1), .inl (cI, 40, .inl (fun _ => 0))), (q3, .inr (6, [.ref (f4 1)])), ((f4 1), .inl (cI, 40, .inl (fun _ => 0))), (q5, .inr (6, [.ref (f6 1)])), ((f6 1), .inl (cI, 40, .inl (fun _ => 0))), (q7, .inr (6, [.ref (f8 1)])), ((f8 1), .inl (cI, 240, .inl (fun _ => 0))), (q9, .inr (6, [.ref (f10 1)])), ((f10 1), .inl (cI, 40, .inl (fun _ => 0))), (q11, .inr (6, [.ref (f12 1)])), ((f12 1), .inl (cI, 120, .inl (fun _ => 0))), (q13, .inr (6, [.ref (f14 1)])), ((f14 1), .inl (cI, 120, .inl (fun _ => 0)))] H := hP
  have hD : va_D A [(h0, .inr (3, [.ref q1, .ref q3, .ref q5, .ref q7, .ref q9, .ref q11, .ref q13, .null, .null, .int 0, .int 0])), (q1, .inr (6, [.ref (f2 1)])), ((f2 1), .inl (cI, 40, .inl (fun _ => 0))), (q3, .inr (6, [.ref (f4 1)])), ((f4 1), .inl (cI, 40, .inl (fun _ => 0))), (q5, .inr (6, [.ref (f6 1)])), ((f6 1), .inl (cI, 40, .inl (fun _ => 0))), (q7, .inr (6, [.ref (f8 1)])), ((f8 1), .inl (cI, 240, .inl (fun _ => 0))), (q9, .inr (6, [.ref (f10 1)])), ((f10 1), .inl (cI, 40, .inl (fun _ => 0))), (q11, .inr (6, [.ref (f12 1)])), ((f12 1), .inl (cI, 120, .inl (fun _ => 0))), (q13, .inr (6, [.ref (f14 1)])), ((f14 1), .inl (cI, 120, .inl (fun _ => 0)))] := hD
  refine lv_aload_n hx hb dc_Law_init_96 rfl (lv_at hl 0 rfl) ?_
  refine va_new (ci := 6) (fs := [.null]) (C := RX6) (T := TX6) (N := 1) hx hb hts am_ws6 tyX6 tyX6_ok hown (hts (.classLink RX3 9 RX6) (am_mem (i := 243) (by decide +kernel) (by decide +kernel))) (hts (.instantiable RX6 1) (am_mem (i := 165) (by decide +kernel) (by decide +kernel))) (hts (.initialized RX6) (am_mem (i := 114) (by decide +kernel) (by decide +kernel))) hK hP hD hS hA rfl (fun j hj => by match j, hj with | 0, _ => rfl | j + 1, hj => exact absurd hj (by omega)) (Nat.le_of_ble_eq_true rfl) (Nat.le_of_ble_eq_true rfl) dc_Law_init_97 (fun q15 H hP hD hS => ?_)
  have hP : va_P D am_cl [(h0, .inr (3, [.ref q1, .ref q3, .ref q5, .ref q7, .ref q9, .ref q11, .ref q13, .null, .null, .int 0, .int 0])), (q1, .inr (6, [.ref (f2 1)])), ((f2 1), .inl (cI, 40, .inl (fun _ => 0))), (q3, .inr (6, [.ref (f4 1)])), ((f4 1), .inl (cI, 40, .inl (fun _ => 0))), (q5, .inr (6, [.ref (f6 1)])), ((f6 1), .inl (cI, 40, .inl (fun _ => 0))), (q7, .inr (6, [.ref (f8 1)])), ((f8 1), .inl (cI, 240, .inl (fun _ => 0))), (q9, .inr (6, [.ref (f10 1)])), ((f10 1), .inl (cI, 40, .inl (fun _ => 0))), (q11, .inr (6, [.ref (f12 1)])), ((f12 1), .inl (cI, 120, .inl (fun _ => 0))), (q13, .inr (6, [.ref (f14 1)])), ((f14 1), .inl (cI, 120, .inl (fun _ => 0))), (q15, .inr (6, [.null]))] H := hP
  have hD : va_D A [(h0, .inr (3, [.ref q1, .ref q3, .ref q5, .ref q7, .ref q9, .ref q11, .ref q13, .null, .null, .int 0, .int 0])), (q1, .inr (6, [.ref (f2 1)])), ((f2 1), .inl (cI, 40, .inl (fun _ => 0))), (q3, .inr (6, [.ref (f4 1)])), ((f4 1), .inl (cI, 40, .inl (fun _ => 0))), (q5, .inr (6, [.ref (f6 1)])), ((f6 1), .inl (cI, 40, .inl (fun _ => 0))), (q7, .inr (6, [.ref (f8 1)])), ((f8 1), .inl (cI, 240, .inl (fun _ => 0))), (q9, .inr (6, [.ref (f10 1)])), ((f10 1), .inl (cI, 40, .inl (fun _ => 0))), (q11, .inr (6, [.ref (f12 1)])), ((f12 1), .inl (cI, 120, .inl (fun _ => 0))), (q13, .inr (6, [.ref (f14 1)])), ((f14 1), .inl (cI, 120, .inl (fun _ => 0))), (q15, .inr (6, [.null]))] := hD
  refine W.widen (k := 15) (n := 648) (by omega) (by omega) ?_
  refine lv_dup hx hb dc_Law_init_100 rfl ?_
  refine lv_bipush (v := 120) hx hb dc_Law_init_101 (by decide) ?_
  have hPc := hP.sub (ws' := [(q15, .inr (6, [.null]))]) [15] rfl
  have hDc := hD.sub (ws' := [(q15, .inr (6, [.null]))]) [15] (by decide) rfl
  have hKc := hK.sub (tys' := [(cI, .int)]) [0] rfl
  have hFc := va_free (wc := [(q15, .inr (6, [.null]))]) hD hS hA [15] rfl
  refine va_callv (va_runI (As := [.int 120]) (rest := [.ref q15, .ref h0]) ⟨hx, hb, hml, hown, hts⟩ (c_Row_init l D cI q15 H.size 120 120 (by decide) rfl (Nat.le_of_ble_eq_true rfl) rfl) (cwI 1 hts (am_GoodWs wc_Row_init) rfl rfl rfl (hts (.initialized RX6) (am_mem (i := 114) (by decide +kernel) (by decide +kernel))) (hts (.methodLink RX3 11 (⟨RX6, "<init>", "(I)V"⟩ : MethodName)) (am_mem (i := 244) (by decide +kernel) (by decide +kernel))) (hts (.instanceMethod (⟨RX6, "<init>", "(I)V"⟩ : MethodName)) (am_mem (i := 167) (by decide +kernel) (by decide +kernel))) rfl (by decide +kernel) ⟨Nat.le_of_ble_eq_true rfl, Nat.le_of_ble_eq_true rfl⟩) ⟨fun a U g mk q => by obtain ⟨q0, q1, qP, qK, qD, qN⟩ := q; exact ⟨q0, q1, qP, va_K.moved (u := U) (U := U.calling g mk a) (Vm.Alike.refl U.vm) qK, qD, am_nsm.same (u := U) rfl qN⟩, fun U hU hW => ⟨rfl, by rw [hU], by rw [hU]; exact hPc, va_K.moved hW.alike hKc, hDc.weaken (fun _ _ _ _ => trivial), hNw.warm hW⟩⟩ rfl rfl hl.1 rfl (lv_room (Nat.le_of_ble_eq_true rfl)) dc_Law_init_103 ⟨Nat.le_of_ble_eq_true rfl, Nat.le_of_ble_eq_true rfl⟩) hS (fun q _ h => hFc q h) hFc (fun u t H1 locs ht hvm hw hB hz1 hk1 hS => ?_)
  obtain ⟨f16, rfl⟩ : ∃ z, z = u := ⟨_, rfl⟩
  obtain ⟨hP1, hK1, hD1⟩ := hB
  rw [ht] at hP1
  obtain ⟨hP, hD⟩ := va_join (wr := [(h0, .inr (3, [.ref q1, .ref q3, .ref q5, .ref q7, .ref q9, .ref q11, .ref q13, .null, .null, .int 0, .int 0])), (q1, .inr (6, [.ref (f2 1)])), ((f2 1), .inl (cI, 40, .inl (fun _ => 0))), (q3, .inr (6, [.ref (f4 1)])), ((f4 1), .inl (cI, 40, .inl (fun _ => 0))), (q5, .inr (6, [.ref (f6 1)])), ((f6 1), .inl (cI, 40, .inl (fun _ => 0))), (q7, .inr (6, [.ref (f8 1)])), ((f8 1), .inl (cI, 240, .inl (fun _ => 0))), (q9, .inr (6, [.ref (f10 1)])), ((f10 1), .inl (cI, 40, .inl (fun _ => 0))), (q11, .inr (6, [.ref (f12 1)])), ((f12 1), .inl (cI, 120, .inl (fun _ => 0))), (q13, .inr (6, [.ref (f14 1)])), ((f14 1), .inl (cI, 120, .inl (fun _ => 0)))]) (w1 := [(q15, .inr (6, [.ref (f16 1)])), ((f16 1), .inl (cI, 120, .inl (fun _ => 0)))]) hP hD [15] [0, 1, 2, 3, 4, 5, 6, 7, 8, 9, 10, 11, 12, 13, 14] rfl rfl (by decide) (by decide) hk1 hFc hP1 hD1
  generalize H1 = H at hP hS ⊢
  have hP : va_P D am_cl [(h0, .inr (3, [.ref q1, .ref q3, .ref q5, .ref q7, .ref q9, .ref q11, .ref q13, .null, .null, .int 0, .int 0])), (q1, .inr (6, [.ref (f2 1)])), ((f2 1), .inl (cI, 40, .inl (fun _ => 0))), (q3, .inr (6, [.ref (f4 1)])), ((f4 1), .inl (cI, 40, .inl (fun _ => 0))), (q5, .inr (6, [.ref (f6 1)])), ((f6 1), .inl (cI, 40, .inl (fun _ => 0))), (q7, .inr (6, [.ref (f8 1)])), ((f8 1), .inl (cI, 240, .inl (fun _ => 0))), (q9, .inr (6, [.ref (f10 1)])), ((f10 1), .inl (cI, 40, .inl (fun _ => 0))), (q11, .inr (6, [.ref (f12 1)])), ((f12 1), .inl (cI, 120, .inl (fun _ => 0))), (q13, .inr (6, [.ref (f14 1)])), ((f14 1), .inl (cI, 120, .inl (fun _ => 0))), (q15, .inr (6, [.ref (f16 1)])), ((f16 1), .inl (cI, 120, .inl (fun _ => 0)))] H := hP
  have hD : va_D A [(h0, .inr (3, [.ref q1, .ref q3, .ref q5, .ref q7, .ref q9, .ref q11, .ref q13, .null, .null, .int 0, .int 0])), (q1, .inr (6, [.ref (f2 1)])), ((f2 1), .inl (cI, 40, .inl (fun _ => 0))), (q3, .inr (6, [.ref (f4 1)])), ((f4 1), .inl (cI, 40, .inl (fun _ => 0))), (q5, .inr (6, [.ref (f6 1)])), ((f6 1), .inl (cI, 40, .inl (fun _ => 0))), (q7, .inr (6, [.ref (f8 1)])), ((f8 1), .inl (cI, 240, .inl (fun _ => 0))), (q9, .inr (6, [.ref (f10 1)])), ((f10 1), .inl (cI, 40, .inl (fun _ => 0))), (q11, .inr (6, [.ref (f12 1)])), ((f12 1), .inl (cI, 120, .inl (fun _ => 0))), (q13, .inr (6, [.ref (f14 1)])), ((f14 1), .inl (cI, 120, .inl (fun _ => 0))), (q15, .inr (6, [.ref (f16 1)])), ((f16 1), .inl (cI, 120, .inl (fun _ => 0)))] := hD
  refine W.widen (k := 16) (n := 768) (by omega) (by omega) ?_
  refine va_putF (D := D) (ci := 3) (v := .ref q15) (ty := tyX3 7) (C := RX3) (T := TX3) (N := 11) hx hb hts am_ws3 tyX3 tyX3_ok nmX3 hown hK hP hD hS 0 rfl rfl 7 (by decide) (hts (.fieldLink RX3 38 "StatuteBook$Law" "effects" "LStatuteBook$Row;") (am_mem (i := 252) (by decide +kernel) (by decide +kernel))) (fun _ h9 => h9) rfl hin rfl (by decide +kernel) rfl rfl (Nat.le_of_ble_eq_true rfl) dc_Law_init_106 (fun H locs hP hD hS => ?_)
  have hP : va_P D am_cl [(h0, .inr (3, [.ref q1, .ref q3, .ref q5, .ref q7, .ref q9, .ref q11, .ref q13, .ref q15, .null, .int 0, .int 0])), (q1, .inr (6, [.ref (f2 1)])), ((f2 1), .inl (cI, 40, .inl (fun _ => 0))), (q3, .inr (6, [.ref (f4 1)])), ((f4 1), .inl (cI, 40, .inl (fun _ => 0))), (q5, .inr (6, [.ref (f6 1)])), ((f6 1), .inl (cI, 40, .inl (fun _ => 0))), (q7, .inr (6, [.ref (f8 1)])), ((f8 1), .inl (cI, 240, .inl (fun _ => 0))), (q9, .inr (6, [.ref (f10 1)])), ((f10 1), .inl (cI, 40, .inl (fun _ => 0))), (q11, .inr (6, [.ref (f12 1)])), ((f12 1), .inl (cI, 120, .inl (fun _ => 0))), (q13, .inr (6, [.ref (f14 1)])), ((f14 1), .inl (cI, 120, .inl (fun _ => 0))), (q15, .inr (6, [.ref (f16 1)])), ((f16 1), .inl (cI, 120, .inl (fun _ => 0)))] H := hP
  have hD : va_D A [(h0, .inr (3, [.ref q1, .ref q3, .ref q5, .ref q7, .ref q9, .ref q11, .ref q13, .ref q15, .null, .int 0, .int 0])), (q1, .inr (6, [.ref (f2 1)])), ((f2 1), .inl (cI, 40, .inl (fun _ => 0))), (q3, .inr (6, [.ref (f4 1)])), ((f4 1), .inl (cI, 40, .inl (fun _ => 0))), (q5, .inr (6, [.ref (f6 1)])), ((f6 1), .inl (cI, 40, .inl (fun _ => 0))), (q7, .inr (6, [.ref (f8 1)])), ((f8 1), .inl (cI, 240, .inl (fun _ => 0))), (q9, .inr (6, [.ref (f10 1)])), ((f10 1), .inl (cI, 40, .inl (fun _ => 0))), (q11, .inr (6, [.ref (f12 1)])), ((f12 1), .inl (cI, 120, .inl (fun _ => 0))), (q13, .inr (6, [.ref (f14 1)])), ((f14 1), .inl (cI, 120, .inl (fun _ => 0))), (q15, .inr (6, [.ref (f16 1)])), ((f16 1), .inl (cI, 120, .inl (fun _ => 0)))] := hD
  refine lv_aload_n hx hb dc_Law_init_109 rfl (lv_at hl 0 rfl) ?_
  refine va_new (ci := 6) (fs := [.null]) (C := RX6) (T := TX6) (N := 1) hx hb hts am_ws6 tyX6 tyX6_ok hown (hts (.classLink RX3 9 RX6) (am_mem (i := 243) (by decide +kernel) (by decide +kernel))) (hts (.instantiable RX6 1) (am_mem (i := 165) (by decide +kernel) (by decide +kernel))) (hts (.initialized RX6) (am_mem (i := 114) (by decide +kernel) (by decide +kernel))) hK hP hD hS hA rfl (fun j hj => by match j, hj with | 0, _ => rfl | j + 1, hj => exact absurd hj (by omega)) (Nat.le_of_ble_eq_true rfl) (Nat.le_of_ble_eq_true rfl) dc_Law_init_110 (fun q17 H hP hD hS => ?_)
  have hP : va_P D am_cl [(h0, .inr (3, [.ref q1, .ref q3, .ref q5, .ref q7, .ref q9, .ref q11, .ref q13, .ref q15, .null, .int 0, .int 0])), (q1, .inr (6, [.ref (f2 1)])), ((f2 1), .inl (cI, 40, .inl (fun _ => 0))), (q3, .inr (6, [.ref (f4 1)])), ((f4 1), .inl (cI, 40, .inl (fun _ => 0))), (q5, .inr (6, [.ref (f6 1)])), ((f6 1), .inl (cI, 40, .inl (fun _ => 0))), (q7, .inr (6, [.ref (f8 1)])), ((f8 1), .inl (cI, 240, .inl (fun _ => 0))), (q9, .inr (6, [.ref (f10 1)])), ((f10 1), .inl (cI, 40, .inl (fun _ => 0))), (q11, .inr (6, [.ref (f12 1)])), ((f12 1), .inl (cI, 120, .inl (fun _ => 0))), (q13, .inr (6, [.ref (f14 1)])), ((f14 1), .inl (cI, 120, .inl (fun _ => 0))), (q15, .inr (6, [.ref (f16 1)])), ((f16 1), .inl (cI, 120, .inl (fun _ => 0))), (q17, .inr (6, [.null]))] H := hP
  have hD : va_D A [(h0, .inr (3, [.ref q1, .ref q3, .ref q5, .ref q7, .ref q9, .ref q11, .ref q13, .ref q15, .null, .int 0, .int 0])), (q1, .inr (6, [.ref (f2 1)])), ((f2 1), .inl (cI, 40, .inl (fun _ => 0))), (q3, .inr (6, [.ref (f4 1)])), ((f4 1), .inl (cI, 40, .inl (fun _ => 0))), (q5, .inr (6, [.ref (f6 1)])), ((f6 1), .inl (cI, 40, .inl (fun _ => 0))), (q7, .inr (6, [.ref (f8 1)])), ((f8 1), .inl (cI, 240, .inl (fun _ => 0))), (q9, .inr (6, [.ref (f10 1)])), ((f10 1), .inl (cI, 40, .inl (fun _ => 0))), (q11, .inr (6, [.ref (f12 1)])), ((f12 1), .inl (cI, 120, .inl (fun _ => 0))), (q13, .inr (6, [.ref (f14 1)])), ((f14 1), .inl (cI, 120, .inl (fun _ => 0))), (q15, .inr (6, [.ref (f16 1)])), ((f16 1), .inl (cI, 120, .inl (fun _ => 0))), (q17, .inr (6, [.null]))] := hD
  refine W.widen (k := 17) (n := 769) (by omega) (by omega) ?_
  refine lv_dup hx hb dc_Law_init_113 rfl ?_
  refine lv_bipush (v := 6) hx hb dc_Law_init_114 (by decide) ?_
  have hPc := hP.sub (ws' := [(q17, .inr (6, [.null]))]) [17] rfl
  have hDc := hD.sub (ws' := [(q17, .inr (6, [.null]))]) [17] (by decide) rfl
  have hKc := hK.sub (tys' := [(cI, .int)]) [0] rfl
  have hFc := va_free (wc := [(q17, .inr (6, [.null]))]) hD hS hA [17] rfl
  refine va_callv (va_runI (As := [.int 6]) (rest := [.ref q17, .ref h0]) ⟨hx, hb, hml, hown, hts⟩ (c_Row_init l D cI q17 H.size 6 6 (by decide) rfl (Nat.le_of_ble_eq_true rfl) rfl) (cwI 1 hts (am_GoodWs wc_Row_init) rfl rfl rfl (hts (.initialized RX6) (am_mem (i := 114) (by decide +kernel) (by decide +kernel))) (hts (.methodLink RX3 11 (⟨RX6, "<init>", "(I)V"⟩ : MethodName)) (am_mem (i := 244) (by decide +kernel) (by decide +kernel))) (hts (.instanceMethod (⟨RX6, "<init>", "(I)V"⟩ : MethodName)) (am_mem (i := 167) (by decide +kernel) (by decide +kernel))) rfl (by decide +kernel) ⟨Nat.le_of_ble_eq_true rfl, Nat.le_of_ble_eq_true rfl⟩) ⟨fun a U g mk q => by obtain ⟨q0, q1, qP, qK, qD, qN⟩ := q; exact ⟨q0, q1, qP, va_K.moved (u := U) (U := U.calling g mk a) (Vm.Alike.refl U.vm) qK, qD, am_nsm.same (u := U) rfl qN⟩, fun U hU hW => ⟨rfl, by rw [hU], by rw [hU]; exact hPc, va_K.moved hW.alike hKc, hDc.weaken (fun _ _ _ _ => trivial), hNw.warm hW⟩⟩ rfl rfl hl.1 rfl (lv_room (Nat.le_of_ble_eq_true rfl)) dc_Law_init_116 ⟨Nat.le_of_ble_eq_true rfl, Nat.le_of_ble_eq_true rfl⟩) hS (fun q _ h => hFc q h) hFc (fun u t H1 locs ht hvm hw hB hz1 hk1 hS => ?_)
  obtain ⟨f18, rfl⟩ : ∃ z, z = u := ⟨_, rfl⟩
  obtain ⟨hP1, hK1, hD1⟩ := hB
  rw [ht] at hP1
  obtain ⟨hP, hD⟩ := va_join (wr := [(h0, .inr (3, [.ref q1, .ref q3, .ref q5, .ref q7, .ref q9, .ref q11, .ref q13, .ref q15, .null, .int 0, .int 0])), (q1, .inr (6, [.ref (f2 1)])), ((f2 1), .inl (cI, 40, .inl (fun _ => 0))), (q3, .inr (6, [.ref (f4 1)])), ((f4 1), .inl (cI, 40, .inl (fun _ => 0))), (q5, .inr (6, [.ref (f6 1)])), ((f6 1), .inl (cI, 40, .inl (fun _ => 0))), (q7, .inr (6, [.ref (f8 1)])), ((f8 1), .inl (cI, 240, .inl (fun _ => 0))), (q9, .inr (6, [.ref (f10 1)])), ((f10 1), .inl (cI, 40, .inl (fun _ => 0))), (q11, .inr (6, [.ref (f12 1)])), ((f12 1), .inl (cI, 120, .inl (fun _ => 0))), (q13, .inr (6, [.ref (f14 1)])), ((f14 1), .inl (cI, 120, .inl (fun _ => 0))), (q15, .inr (6, [.ref (f16 1)])), ((f16 1), .inl (cI, 120, .inl (fun _ => 0)))]) (w1 := [(q17, .inr (6, [.ref (f18 1)])), ((f18 1), .inl (cI, 6, .inl (fun _ => 0)))]) hP hD [17] [0, 1, 2, 3, 4, 5, 6, 7, 8, 9, 10, 11, 12, 13, 14, 15, 16] rfl rfl (by decide) (by decide) hk1 hFc hP1 hD1
  generalize H1 = H at hP hS ⊢
  have hP : va_P D am_cl [(h0, .inr (3, [.ref q1, .ref q3, .ref q5, .ref q7, .ref q9, .ref q11, .ref q13, .ref q15, .null, .int 0, .int 0])), (q1, .inr (6, [.ref (f2 1)])), ((f2 1), .inl (cI, 40, .inl (fun _ => 0))), (q3, .inr (6, [.ref (f4 1)])), ((f4 1), .inl (cI, 40, .inl (fun _ => 0))), (q5, .inr (6, [.ref (f6 1)])), ((f6 1), .inl (cI, 40, .inl (fun _ => 0))), (q7, .inr (6, [.ref (f8 1)])), ((f8 1), .inl (cI, 240, .inl (fun _ => 0))), (q9, .inr (6, [.ref (f10 1)])), ((f10 1), .inl (cI, 40, .inl (fun _ => 0))), (q11, .inr (6, [.ref (f12 1)])), ((f12 1), .inl (cI, 120, .inl (fun _ => 0))), (q13, .inr (6, [.ref (f14 1)])), ((f14 1), .inl (cI, 120, .inl (fun _ => 0))), (q15, .inr (6, [.ref (f16 1)])), ((f16 1), .inl (cI, 120, .inl (fun _ => 0))), (q17, .inr (6, [.ref (f18 1)])), ((f18 1), .inl (cI, 6, .inl (fun _ => 0)))] H := hP
  have hD : va_D A [(h0, .inr (3, [.ref q1, .ref q3, .ref q5, .ref q7, .ref q9, .ref q11, .ref q13, .ref q15, .null, .int 0, .int 0])), (q1, .inr (6, [.ref (f2 1)])), ((f2 1), .inl (cI, 40, .inl (fun _ => 0))), (q3, .inr (6, [.ref (f4 1)])), ((f4 1), .inl (cI, 40, .inl (fun _ => 0))), (q5, .inr (6, [.ref (f6 1)])), ((f6 1), .inl (cI, 40, .inl (fun _ => 0))), (q7, .inr (6, [.ref (f8 1)])), ((f8 1), .inl (cI, 240, .inl (fun _ => 0))), (q9, .inr (6, [.ref (f10 1)])), ((f10 1), .inl (cI, 40, .inl (fun _ => 0))), (q11, .inr (6, [.ref (f12 1)])), ((f12 1), .inl (cI, 120, .inl (fun _ => 0))), (q13, .inr (6, [.ref (f14 1)])), ((f14 1), .inl (cI, 120, .inl (fun _ => 0))), (q15, .inr (6, [.ref (f16 1)])), ((f16 1), .inl (cI, 120, .inl (fun _ => 0))), (q17, .inr (6, [.ref (f18 1)])), ((f18 1), .inl (cI, 6, .inl (fun _ => 0)))] := hD
  refine W.widen (k := 18) (n := 775) (by omega) (by omega) ?_
  refine va_putF (D := D) (ci := 3) (v := .ref q17) (ty := tyX3 8) (C := RX3) (T := TX3) (N := 11) hx hb hts am_ws3 tyX3 tyX3_ok nmX3 hown hK hP hD hS 0 rfl rfl 8 (by decide) (hts (.fieldLink RX3 41 "StatuteBook$Law" "resolved" "LStatuteBook$Row;") (am_mem (i := 253) (by decide +kernel) (by decide +kernel))) (fun _ h9 => h9) rfl hin rfl (by decide +kernel) rfl rfl (Nat.le_of_ble_eq_true rfl) dc_Law_init_119 (fun H locs hP hD hS => ?_)
  have hP : va_P D am_cl [(h0, .inr (3, [.ref q1, .ref q3, .ref q5, .ref q7, .ref q9, .ref q11, .ref q13, .ref q15, .ref q17, .int 0, .int 0])), (q1, .inr (6, [.ref (f2 1)])), ((f2 1), .inl (cI, 40, .inl (fun _ => 0))), (q3, .inr (6, [.ref (f4 1)])), ((f4 1), .inl (cI, 40, .inl (fun _ => 0))), (q5, .inr (6, [.ref (f6 1)])), ((f6 1), .inl (cI, 40, .inl (fun _ => 0))), (q7, .inr (6, [.ref (f8 1)])), ((f8 1), .inl (cI, 240, .inl (fun _ => 0))), (q9, .inr (6, [.ref (f10 1)])), ((f10 1), .inl (cI, 40, .inl (fun _ => 0))), (q11, .inr (6, [.ref (f12 1)])), ((f12 1), .inl (cI, 120, .inl (fun _ => 0))), (q13, .inr (6, [.ref (f14 1)])), ((f14 1), .inl (cI, 120, .inl (fun _ => 0))), (q15, .inr (6, [.ref (f16 1)])), ((f16 1), .inl (cI, 120, .inl (fun _ => 0))), (q17, .inr (6, [.ref (f18 1)])), ((f18 1), .inl (cI, 6, .inl (fun _ => 0)))] H := hP
  have hD : va_D A [(h0, .inr (3, [.ref q1, .ref q3, .ref q5, .ref q7, .ref q9, .ref q11, .ref q13, .ref q15, .ref q17, .int 0, .int 0])), (q1, .inr (6, [.ref (f2 1)])), ((f2 1), .inl (cI, 40, .inl (fun _ => 0))), (q3, .inr (6, [.ref (f4 1)])), ((f4 1), .inl (cI, 40, .inl (fun _ => 0))), (q5, .inr (6, [.ref (f6 1)])), ((f6 1), .inl (cI, 40, .inl (fun _ => 0))), (q7, .inr (6, [.ref (f8 1)])), ((f8 1), .inl (cI, 240, .inl (fun _ => 0))), (q9, .inr (6, [.ref (f10 1)])), ((f10 1), .inl (cI, 40, .inl (fun _ => 0))), (q11, .inr (6, [.ref (f12 1)])), ((f12 1), .inl (cI, 120, .inl (fun _ => 0))), (q13, .inr (6, [.ref (f14 1)])), ((f14 1), .inl (cI, 120, .inl (fun _ => 0))), (q15, .inr (6, [.ref (f16 1)])), ((f16 1), .inl (cI, 120, .inl (fun _ => 0))), (q17, .inr (6, [.ref (f18 1)])), ((f18 1), .inl (cI, 6, .inl (fun _ => 0)))] := hD
  have hP9 := hP.sub (ws' := [(h0, .inr (3, [.ref q1, .ref q3, .ref q5, .ref q7, .ref q9, .ref q11, .ref q13, .ref q15, .ref q17, .int 0, .int 0])), (q1, .inr (6, [.ref (f2 1)])), ((f2 1), .inl (cI, 40, .inl (fun _ => 0))), (q3, .inr (6, [.ref (f4 1)])), ((f4 1), .inl (cI, 40, .inl (fun _ => 0))), (q5, .inr (6, [.ref (f6 1)])), ((f6 1), .inl (cI, 40, .inl (fun _ => 0))), (q7, .inr (6, [.ref (f8 1)])), ((f8 1), .inl (cI, 240, .inl (fun _ => 0))), (q9, .inr (6, [.ref (f10 1)])), ((f10 1), .inl (cI, 40, .inl (fun _ => 0))), (q11, .inr (6, [.ref (f12 1)])), ((f12 1), .inl (cI, 120, .inl (fun _ => 0))), (q13, .inr (6, [.ref (f14 1)])), ((f14 1), .inl (cI, 120, .inl (fun _ => 0))), (q15, .inr (6, [.ref (f16 1)])), ((f16 1), .inl (cI, 120, .inl (fun _ => 0))), (q17, .inr (6, [.ref (f18 1)])), ((f18 1), .inl (cI, 6, .inl (fun _ => 0)))]) [0, 1, 2, 3, 4, 5, 6, 7, 8, 9, 10, 11, 12, 13, 14, 15, 16, 17, 18] rfl
  exact W.vret hx hb hr (fun t ht hW => ⟨⟨(fun k => match k with | 1 => q1 | 2 => (f2 1) | 3 => q3 | 4 => (f4 1) | 5 => q5 | 6 => (f6 1) | 7 => q7 | 8 => (f8 1) | 9 => q9 | 10 => (f10 1) | 11 => q11 | 12 => (f12 1) | 13 => q13 | 14 => (f14 1) | 15 => q15 | 16 => (f16 1) | 17 => q17 | 18 => (f18 1) | _ => 0), rfl, trivial, by rw [ht]; exact hP9, va_K.moved hW.alike hK, hD⟩, hS.F ht⟩) hS.2.2 dc_Law_init_122
theorem dc_Wal_init_0 : decode prog_9_method_1_code 0 = .ok (.aload_n 0, 1) := by decide +kernel
theorem dc_Wal_init_1 : decode prog_9_method_1_code 1 = .ok (.invokespecial 3, 3) := by decide +kernel
theorem dc_Wal_init_4 : decode prog_9_method_1_code 4 = .ok (.aload_n 0, 1) := by decide +kernel
theorem dc_Wal_init_5 : decode prog_9_method_1_code 5 = .ok (.new 9, 3) := by decide +kernel
theorem dc_Wal_init_8 : decode prog_9_method_1_code 8 = .ok (.dup, 1) := by decide +kernel
theorem dc_Wal_init_9 : decode prog_9_method_1_code 9 = .ok (.bipush 40, 2) := by decide +kernel
theorem dc_Wal_init_11 : decode prog_9_method_1_code 11 = .ok (.invokespecial 11, 3) := by decide +kernel
theorem dc_Wal_init_14 : decode prog_9_method_1_code 14 = .ok (.putfield 14, 3) := by decide +kernel
theorem dc_Wal_init_17 : decode prog_9_method_1_code 17 = .ok (.aload_n 0, 1) := by decide +kernel
theorem dc_Wal_init_18 : decode prog_9_method_1_code 18 = .ok (.new 9, 3) := by decide +kernel
theorem dc_Wal_init_21 : decode prog_9_method_1_code 21 = .ok (.dup, 1) := by decide +kernel
theorem dc_Wal_init_22 : decode prog_9_method_1_code 22 = .ok (.bipush 40, 2) := by decide +kernel
theorem dc_Wal_init_24 : decode prog_9_method_1_code 24 = .ok (.invokespecial 11, 3) := by decide +kernel
theorem dc_Wal_init_27 : decode prog_9_method_1_code 27 = .ok (.putfield 20, 3) := by decide +kernel
theorem dc_Wal_init_30 : decode prog_9_method_1_code 30 = .ok (.return_, 1) := by decide +kernel
theorem wc_Wal_init : Cond.code ⟨RX7, "<init>", "()V"⟩ prog_9_method_1_code 1 none ∈ am_tbl := am_mem (i := 283) (by decide +kernel) (by decide +kernel)
def aw_Wal (cI : ClassId) (h0 : Nat) (f : Nat → Nat) : va_W := [(h0, .inr (7, [.ref (f 1), .ref (f 3), .int 0, .int 0])), ((f 1), .inr (6, [.ref (f 2)])), ((f 2), .inl (cI, 40, .inl (fun _ => 0))), ((f 3), .inr (6, [.ref (f 4)])), ((f 4), .inl (cI, 40, .inl (fun _ => 0)))]
set_option maxHeartbeats 4000000 in
set_option maxRecDepth 100000 in
theorem c_Wal_init (l : Launch) (D : va_G) (cI : ClassId) (h0 : Nat) (sz : Nat) : Met l ⟨RX7, "<init>", "()V"⟩ (Cond.code ⟨RX7, "<init>", "()V"⟩ prog_9_method_1_code 1 none :: am_tbl) ({ frames := 2, cells := 4, slots := 82, locals := 42 }) (va_Pc [.ref h0] (fun U => U.heap.size = sz ∧ va_P D am_cl [(h0, .inr (7, [.null, .null, .int 0, .int 0]))] U.heap ∧ va_K D am_cl [(cI, .int)] U ∧ va_D (fun _ => True) [(h0, .inr (7, [.null, .null, .int 0, .int 0]))] ∧ am_nsm U)) (va_Qv (fun _ : Nat → Nat => True) (fun f t => va_P D am_cl (aw_Wal cI h0 f) t.heap ∧ va_K D am_cl [(cI, .int)] t ∧ va_D (va_A [(h0, .inr (7, [.null, .null, .int 0, .int 0]))] sz) (aw_Wal cI h0 f)) (va_A [(h0, .inr (7, [.null, .null, .int 0, .int 0]))] sz)) 4 82 (va_A [(h0, .inr (7, [.null, .null, .int 0, .int 0]))] sz) := by
  refine Met.ofW (cc := prog_9_method_1_code) (maxL := 1) (ret := none) (by decide) rfl ?_
  intro p e s m args below meth c s₁ B hml hv
  obtain ⟨rfl, hsz, hP, hK, hD0, hNw⟩ := hv
  have hx := B.exec
  have hb := B.bytes
  have hr := B.returns
  have hts0 := atoms_spec (ws := (Cond.code ⟨RX7, "<init>", "()V"⟩ prog_9_method_1_code 1 none :: am_tbl)) B.pre
  have hts : ∀ w ∈ am_tbl, w.before _ s = true := fun w hw => hts0 w (List.mem_cons_of_mem _ hw)
  have hown : s.vm.findClass RX7 = some m.cls := findClass_of_methodNamed B.named
  have hlocks := B.notSynchronized
  have hin : meth.name = "<init>" := (name_of_methodNamed B.named B.method).1
  subst hsz
  have hD := hD0.self (sz := s.heap.size)
  generalize hAe : va_A [(h0, .inr (7, [.null, .null, .int 0, .int 0]))] s.heap.size = A at hD ⊢
  have hA : ∀ q : Nat, s.heap.size ≤ q → A q := fun q h => by rw [← hAe]; exact Or.inr h
  have hS : va_S A s.heap s.heap [] := va_S.rf
  have hl := lv_entry ([.ref h0]) (n := 1) (Nat.le_of_ble_eq_true rfl)
  rw [lg_entry_eq]
  generalize (lg_sl ([.ref h0]) ++ List.replicate (1 - (lg_sl ([.ref h0])).length) Slot.unset).toArray = ls at hl ⊢
  have hl : lv_has ls 1 [(0, .ref h0)] := hl
  refine lv_aload_n hx hb dc_Wal_init_0 rfl (lv_at hl 0 rfl) ?_
  refine W.objInit hx hb hown (hts (.methodLink RX7 3 objectInit) (am_mem (i := 284) (by decide +kernel) (by decide +kernel))) (hts _ am_wob1) (hts _ am_wob2) rfl (by rw [hml]; exact hl.1) rfl dc_Wal_init_1 (Nat.le_of_ble_eq_true rfl) (Nat.le_of_ble_eq_true rfl) ?_
  refine W.eq (g2 := F0 m 4 ls []) rfl ?_
  refine lv_aload_n hx hb dc_Wal_init_4 rfl (lv_at hl 0 rfl) ?_
  refine va_new (ci := 6) (fs := [.null]) (C := RX6) (T := TX6) (N := 1) hx hb hts am_ws6 tyX6 tyX6_ok hown (hts (.classLink RX7 9 RX6) (am_mem (i := 285) (by decide +kernel) (by decide +kernel))) (hts (.instantiable RX6 1) (am_mem (i := 165) (by decide +kernel) (by decide +kernel))) (hts (.initialized RX6) (am_mem (i := 114) (by decide +kernel) (by decide +kernel))) hK hP hD hS hA rfl (fun j hj => by match j, hj with | 0, _ => rfl | j + 1, hj => exact absurd hj (by omega)) (Nat.le_of_ble_eq_true rfl) (Nat.le_of_ble_eq_true rfl) dc_Wal_init_5 (fun q1 H hP hD hS => ?_)
  have hP : va_P D am_cl [(h0, .inr (7, [.null, .null, .int 0, .int 0])), (q1, .inr (6, [.null]))] H := hP
  have hD : va_D A [(h0, .inr (7, [.null, .null, .int 0, .int 0])), (q1, .inr (6, [.null]))] := hD
  refine W.widen (k := 1) (n := 1) (by omega) (by omega) ?_
  refine lv_dup hx hb dc_Wal_init_8 rfl ?_
  refine lv_bipush (v := 40) hx hb dc_Wal_init_9 (by decide) ?_
  have hPc := hP.sub (ws' := [(q1, .inr (6, [.null]))]) [1] rfl
  have hDc := hD.sub (ws' := [(q1, .inr (6, [.null]))]) [1] (by decide) rfl
  have hKc := hK.sub (tys' := [(cI, .int)]) [0] rfl
  have hFc := va_free (wc := [(q1, .inr (6, [.null]))]) hD hS hA [1] rfl
  refine va_callv (va_runI (As := [.int 40]) (rest := [.ref q1, .ref h0]) ⟨hx, hb, hml, hown, hts⟩ (c_Row_init l D cI q1 H.size 40 40 (by decide) rfl (Nat.le_of_ble_eq_true rfl) rfl) (cwI 1 hts (am_GoodWs wc_Row_init) rfl rfl rfl (hts (.initialized RX6) (am_mem (i := 114) (by decide +kernel) (by decide +kernel))) (hts (.methodLink RX7 11 (⟨RX6, "<init>", "(I)V"⟩ : MethodName)) (am_mem (i := 286) (by decide +kernel) (by decide +kernel))) (hts (.instanceMethod (⟨RX6, "<init>", "(I)V"⟩ : MethodName)) (am_mem (i := 167) (by decide +kernel) (by decide +kernel))) rfl (by decide +kernel) ⟨Nat.le_of_ble_eq_true rfl, Nat.le_of_ble_eq_true rfl⟩) ⟨fun a U g mk q => by obtain ⟨q0, q1, qP, qK, qD, qN⟩ := q; exact ⟨q0, q1, qP, va_K.moved (u := U) (U := U.calling g mk a) (Vm.Alike.refl U.vm) qK, qD, am_nsm.same (u := U) rfl qN⟩, fun U hU hW => ⟨rfl, by rw [hU], by rw [hU]; exact hPc, va_K.moved hW.alike hKc, hDc.weaken (fun _ _ _ _ => trivial), hNw.warm hW⟩⟩ rfl rfl hl.1 rfl (lv_room (Nat.le_of_ble_eq_true rfl)) dc_Wal_init_11 ⟨Nat.le_of_ble_eq_true rfl, Nat.le_of_ble_eq_true rfl⟩) hS (fun q _ h => hFc q h) hFc (fun u t H1 locs ht hvm hw hB hz1 hk1 hS => ?_)
  obtain ⟨f2, rfl⟩ : ∃ z, z = u := ⟨_, rfl⟩
  obtain ⟨hP1, hK1, hD1⟩ := hB
  rw [ht] at hP1
  obtain ⟨hP, hD⟩ := va_join (wr := [(h0, .inr (7, [.null, .null, .int 0, .int 0]))]) (w1 := [(q1, .inr (6, [.ref (f2 1)])), ((f2 1), .inl (cI, 40, .inl (fun _ => 0)))]) hP hD [1] [0] rfl rfl (by decide) (by decide) hk1 hFc hP1 hD1
  generalize H1 = H at hP hS ⊢
  have hP : va_P D am_cl [(h0, .inr (7, [.null, .null, .int 0, .int 0])), (q1, .inr (6, [.ref (f2 1)])), ((f2 1), .inl (cI, 40, .inl (fun _ => 0)))] H := hP
  have hD : va_D A [(h0, .inr (7, [.null, .null, .int 0, .int 0])), (q1, .inr (6, [.ref (f2 1)])), ((f2 1), .inl (cI, 40, .inl (fun _ => 0)))] := hD
  refine W.widen (k := 2) (n := 41) (by omega) (by omega) ?_
  refine va_putF (D := D) (ci := 7) (v := .ref q1) (ty := tyX7 0) (C := RX7) (T := TX7) (N := 4) hx hb hts am_ws7 tyX7 tyX7_ok nmX7 hown hK hP hD hS 0 rfl rfl 0 (by decide) (hts (.fieldLink RX7 14 "StatuteBook$Walk" "distances" "LStatuteBook$Row;") (am_mem (i := 287) (by decide +kernel) (by decide +kernel))) (fun _ h9 => h9) rfl hin rfl (by decide +kernel) rfl rfl (Nat.le_of_ble_eq_true rfl) dc_Wal_init_14 (fun H locs hP hD hS => ?_)
  have hP : va_P D am_cl [(h0, .inr (7, [.ref q1, .null, .int 0, .int 0])), (q1, .inr (6, [.ref (f2 1)])), ((f2 1), .inl (cI, 40, .inl (fun _ => 0)))] H := hP
  have hD : va_D A [(h0, .inr (7, [.ref q1, .null, .int 0, .int 0])), (q1, .inr (6, [.ref (f2 1)])), ((f2 1), .inl (cI, 40, .inl (fun _ => 0)))] := hD
  refine lv_aload_n hx hb dc_Wal_init_17 rfl (lv_at hl 0 rfl) ?_
  refine va_new (ci := 6) (fs := [.null]) (C := RX6) (T := TX6) (N := 1) hx hb hts am_ws6 tyX6 tyX6_ok hown (hts (.classLink RX7 9 RX6) (am_mem (i := 285) (by decide +kernel) (by decide +kernel))) (hts (.instantiable RX6 1) (am_mem (i := 165) (by decide +kernel) (by decide +kernel))) (hts (.initialized RX6) (am_mem (i := 114) (by decide +kernel) (by decide +kernel))) hK hP hD hS hA rfl (fun j hj => by match j, hj with | 0, _ => rfl | j + 1, hj => exact absurd hj (by omega)) (Nat.le_of_ble_eq_true rfl) (Nat.le_of_ble_eq_true rfl) dc_Wal_init_18 (fun q3 H hP hD hS => ?_)
  have hP : va_P D am_cl [(h0, .inr (7, [.ref q1, .null, .int 0, .int 0])), (q1, .inr (6, [.ref (f2 1)])), ((f2 1), .inl (cI, 40, .inl (fun _ => 0))), (q3, .inr (6, [.null]))] H := hP
  have hD : va_D A [(h0, .inr (7, [.ref q1, .null, .int 0, .int 0])), (q1, .inr (6, [.ref (f2 1)])), ((f2 1), .inl (cI, 40, .inl (fun _ => 0))), (q3, .inr (6, [.null]))] := hD
  refine W.widen (k := 3) (n := 42) (by omega) (by omega) ?_
  refine lv_dup hx hb dc_Wal_init_21 rfl ?_
  refine lv_bipush (v := 40) hx hb dc_Wal_init_22 (by decide) ?_
  have hPc := hP.sub (ws' := [(q3, .inr (6, [.null]))]) [3] rfl
  have hDc := hD.sub (ws' := [(q3, .inr (6, [.null]))]) [3] (by decide) rfl
  have hKc := hK.sub (tys' := [(cI, .int)]) [0] rfl
  have hFc := va_free (wc := [(q3, .inr (6, [.null]))]) hD hS hA [3] rfl
  refine va_callv (va_runI (As := [.int 40]) (rest := [.ref q3, .ref h0]) ⟨hx, hb, hml, hown, hts⟩ (c_Row_init l D cI q3 H.size 40 40 (by decide) rfl (Nat.le_of_ble_eq_true rfl) rfl) (cwI 1 hts (am_GoodWs wc_Row_init) rfl rfl rfl (hts (.initialized RX6) (am_mem (i := 114) (by decide +kernel) (by decide +kernel))) (hts (.methodLink RX7 11 (⟨RX6, "<init>", "(I)V"⟩ : MethodName)) (am_mem (i := 286) (by decide +kernel) (by decide +kernel))) (hts (.instanceMethod (⟨RX6, "<init>", "(I)V"⟩ : MethodName)) (am_mem (i := 167) (by decide +kernel) (by decide +kernel))) rfl (by decide +kernel) ⟨Nat.le_of_ble_eq_true rfl, Nat.le_of_ble_eq_true rfl⟩) ⟨fun a U g mk q => by obtain ⟨q0, q1, qP, qK, qD, qN⟩ := q; exact ⟨q0, q1, qP, va_K.moved (u := U) (U := U.calling g mk a) (Vm.Alike.refl U.vm) qK, qD, am_nsm.same (u := U) rfl qN⟩, fun U hU hW => ⟨rfl, by rw [hU], by rw [hU]; exact hPc, va_K.moved hW.alike hKc, hDc.weaken (fun _ _ _ _ => trivial), hNw.warm hW⟩⟩ rfl rfl hl.1 rfl (lv_room (Nat.le_of_ble_eq_true rfl)) dc_Wal_init_24 ⟨Nat.le_of_ble_eq_true rfl, Nat.le_of_ble_eq_true rfl⟩) hS (fun q _ h => hFc q h) hFc (fun u t H1 locs ht hvm hw hB hz1 hk1 hS => ?_)
  obtain ⟨f4, rfl⟩ : ∃ z, z = u := ⟨_, rfl⟩
  obtain ⟨hP1, hK1, hD1⟩ := hB
  rw [ht] at hP1
  obtain ⟨hP, hD⟩ := va_join (wr := [(h0, .inr (7, [.ref q1, .null, .int 0, .int 0])), (q1, .inr (6, [.ref (f2 1)])), ((f2 1), .inl (cI, 40, .inl (fun _ => 0)))]) (w1 := [(q3, .inr (6, [.ref (f4 1)])), ((f4 1), .inl (cI, 40, .inl (fun _ => 0)))]) hP hD [3] [0, 1, 2] rfl rfl (by decide) (by decide) hk1 hFc hP1 hD1
  generalize H1 = H at hP hS ⊢
  have hP : va_P D am_cl [(h0, .inr (7, [.ref q1, .null, .int 0, .int 0])), (q1, .inr (6, [.ref (f2 1)])), ((f2 1), .inl (cI, 40, .inl (fun _ => 0))), (q3, .inr (6, [.ref (f4 1)])), ((f4 1), .inl (cI, 40, .inl (fun _ => 0)))] H := hP
  have hD : va_D A [(h0, .inr (7, [.ref q1, .null, .int 0, .int 0])), (q1, .inr (6, [.ref (f2 1)])), ((f2 1), .inl (cI, 40, .inl (fun _ => 0))), (q3, .inr (6, [.ref (f4 1)])), ((f4 1), .inl (cI, 40, .inl (fun _ => 0)))] := hD
  refine W.widen (k := 4) (n := 82) (by omega) (by omega) ?_
  refine va_putF (D := D) (ci := 7) (v := .ref q3) (ty := tyX7 1) (C := RX7) (T := TX7) (N := 4) hx hb hts am_ws7 tyX7 tyX7_ok nmX7 hown hK hP hD hS 0 rfl rfl 1 (by decide) (hts (.fieldLink RX7 20 "StatuteBook$Walk" "queue" "LStatuteBook$Row;") (am_mem (i := 288) (by decide +kernel) (by decide +kernel))) (fun _ h9 => h9) rfl hin rfl (by decide +kernel) rfl rfl (Nat.le_of_ble_eq_true rfl) dc_Wal_init_27 (fun H locs hP hD hS => ?_)
  have hP : va_P D am_cl [(h0, .inr (7, [.ref q1, .ref q3, .int 0, .int 0])), (q1, .inr (6, [.ref (f2 1)])), ((f2 1), .inl (cI, 40, .inl (fun _ => 0))), (q3, .inr (6, [.ref (f4 1)])), ((f4 1), .inl (cI, 40, .inl (fun _ => 0)))] H := hP
  have hD : va_D A [(h0, .inr (7, [.ref q1, .ref q3, .int 0, .int 0])), (q1, .inr (6, [.ref (f2 1)])), ((f2 1), .inl (cI, 40, .inl (fun _ => 0))), (q3, .inr (6, [.ref (f4 1)])), ((f4 1), .inl (cI, 40, .inl (fun _ => 0)))] := hD
  have hP9 := hP.sub (ws' := [(h0, .inr (7, [.ref q1, .ref q3, .int 0, .int 0])), (q1, .inr (6, [.ref (f2 1)])), ((f2 1), .inl (cI, 40, .inl (fun _ => 0))), (q3, .inr (6, [.ref (f4 1)])), ((f4 1), .inl (cI, 40, .inl (fun _ => 0)))]) [0, 1, 2, 3, 4] rfl
  exact W.vret hx hb hr (fun t ht hW => ⟨⟨(fun k => match k with | 1 => q1 | 2 => (f2 1) | 3 => q3 | 4 => (f4 1) | _ => 0), rfl, trivial, by rw [ht]; exact hP9, va_K.moved hW.alike hK, hD⟩, hS.F ht⟩) hS.2.2 dc_Wal_init_30
theorem dc_Rea_init_0 : decode prog_7_method_1_code 0 = .ok (.aload_n 0, 1) := by decide +kernel
theorem dc_Rea_init_1 : decode prog_7_method_1_code 1 = .ok (.invokespecial 3, 3) := by decide +kernel
theorem dc_Rea_init_4 : decode prog_7_method_1_code 4 = .ok (.aload_n 0, 1) := by decide +kernel
theorem dc_Rea_init_5 : decode prog_7_method_1_code 5 = .ok (.new 9, 3) := by decide +kernel
theorem dc_Rea_init_8 : decode prog_7_method_1_code 8 = .ok (.dup, 1) := by decide +kernel
theorem dc_Rea_init_9 : decode prog_7_method_1_code 9 = .ok (.bipush 120, 2) := by decide +kernel
theorem dc_Rea_init_11 : decode prog_7_method_1_code 11 = .ok (.invokespecial 11, 3) := by decide +kernel
theorem dc_Rea_init_14 : decode prog_7_method_1_code 14 = .ok (.putfield 14, 3) := by decide +kernel
theorem dc_Rea_init_17 : decode prog_7_method_1_code 17 = .ok (.aload_n 0, 1) := by decide +kernel
theorem dc_Rea_init_18 : decode prog_7_method_1_code 18 = .ok (.new 20, 3) := by decide +kernel
theorem dc_Rea_init_21 : decode prog_7_method_1_code 21 = .ok (.dup, 1) := by decide +kernel
theorem dc_Rea_init_22 : decode prog_7_method_1_code 22 = .ok (.invokespecial 22, 3) := by decide +kernel
theorem dc_Rea_init_25 : decode prog_7_method_1_code 25 = .ok (.putfield 23, 3) := by decide +kernel
theorem dc_Rea_init_28 : decode prog_7_method_1_code 28 = .ok (.return_, 1) := by decide +kernel
theorem wc_Rea_init : Cond.code ⟨RX5, "<init>", "()V"⟩ prog_7_method_1_code 1 none ∈ am_tbl := am_mem (i := 139) (by decide +kernel) (by decide +kernel)
def aw_Rea (cI : ClassId) (h0 : Nat) (f : Nat → Nat) : va_W := [(h0, .inr (5, [.ref (f 1), .ref (f 3), .int 0, .int 0])), ((f 1), .inr (4, [.ref (f 2), .int 0])), ((f 2), .inl (cI, 120, .inl (fun _ => 0))), ((f 3), .inr (2, [.ref (f 4), .int 0, .int 0])), ((f 4), .inr (6, [.ref (f 5)])), ((f 5), .inl (cI, 520, .inl (fun _ => 0)))]
set_option maxHeartbeats 4000000 in
set_option maxRecDepth 100000 in
theorem c_Rea_init (l : Launch) (D : va_G) (cI : ClassId) (h0 : Nat) (sz : Nat) : Met l ⟨RX5, "<init>", "()V"⟩ (Cond.code ⟨RX5, "<init>", "()V"⟩ prog_7_method_1_code 1 none :: am_tbl) ({ frames := 3, cells := 5, slots := 646, locals := 62 }) (va_Pc [.ref h0] (fun U => U.heap.size = sz ∧ va_P D am_cl [(h0, .inr (5, [.null, .null, .int 0, .int 0]))] U.heap ∧ va_K D am_cl [(cI, .int)] U ∧ va_D (fun _ => True) [(h0, .inr (5, [.null, .null, .int 0, .int 0]))] ∧ am_nsm U)) (va_Qv (fun _ : Nat → Nat => True) (fun f t => va_P D am_cl (aw_Rea cI h0 f) t.heap ∧ va_K D am_cl [(cI, .int)] t ∧ va_D (va_A [(h0, .inr (5, [.null, .null, .int 0, .int 0]))] sz) (aw_Rea cI h0 f)) (va_A [(h0, .inr (5, [.null, .null, .int 0, .int 0]))] sz)) 5 646 (va_A [(h0, .inr (5, [.null, .null, .int 0, .int 0]))] sz) := by
  refine Met.ofW (cc := prog_7_method_1_code) (maxL := 1) (ret := none) (by decide) rfl ?_
  intro p e s m args below meth c s₁ B hml hv
  obtain ⟨rfl, hsz, hP, hK, hD0, hNw⟩ := hv
  have hx := B.exec
  have hb := B.bytes
  have hr := B.returns
  have hts0 := atoms_spec (ws := (Cond.code ⟨RX5, "<init>", "()V"⟩ prog_7_method_1_code 1 none :: am_tbl)) B.pre
  have hts : ∀ w ∈ am_tbl, w.before _ s = true := fun w hw => hts0 w (List.mem_cons_of_mem _ hw)
  have hown : s.vm.findClass RX5 = some m.cls := findClass_of_methodNamed B.named
  have hlocks := B.notSynchronized
  have hin : meth.name = "<init>" := (name_of_methodNamed B.named B.method).1
  subst hsz
  have hD := hD0.self (sz := s.heap.size)
  generalize hAe : va_A [(h0, .inr (5, [.null, .null, .int 0, .int 0]))] s.heap.size = A at hD ⊢
  have hA : ∀ q : Nat, s.heap.size ≤ q → A q := fun q h => by rw [← hAe]; exact Or.inr h
  have hS : va_S A s.heap s.heap [] := va_S.rf
  have hl := lv_entry ([.ref h0]) (n := 1) (Nat.le_of_ble_eq_true rfl)
  rw [lg_entry_eq]
  generalize (lg_sl ([.ref h0]) ++ List.replicate (1 - (lg_sl ([.ref h0])).length) Slot.unset).toArray = ls at hl ⊢
  have hl : lv_has ls 1 [(0, .ref h0)] := hl
  refine lv_aload_n hx hb dc_Rea_init_0 rfl (lv_at hl 0 rfl) ?_
  refine W.objInit hx hb hown (hts (.methodLink RX5 3 objectInit) (am_mem (i := 140) (by decide +kernel) (by decide +kernel))) (hts _ am_wob1) (hts _ am_wob2) rfl (by rw [hml]; exact hl.1) rfl dc_Rea_init_1 (Nat.le_of_ble_eq_true rfl) (Nat.le_of_ble_eq_true rfl) ?_
  refine W.eq (g2 := F0 m 4 ls []) rfl ?_
  refine lv_aload_n hx hb dc_Rea_init_4 rfl (lv_at hl 0 rfl) ?_
  refine va_new (ci := 4) (fs := [.null, .int 0]) (C := RX4) (T := TX4) (N := 2) hx hb hts am_ws4 tyX4 tyX4_ok hown (hts (.classLink RX5 9 RX4) (am_mem (i := 141) (by decide +kernel) (by decide +kernel))) (hts (.instantiable RX4 2) (am_mem (i := 142) (by decide +kernel) (by decide +kernel))) (hts (.initialized RX4) (am_mem (i := 111) (by decide +kernel) (by decide +kernel))) hK hP hD hS hA rfl (fun j hj => by match j, hj with | 0, _ => rfl | 1, _ => rfl | j + 2, hj => exact absurd hj (by omega)) (Nat.le_of_ble_eq_true rfl) (Nat.le_of_ble_eq_true rfl) dc_Rea_init_5 (fun q1 H hP hD hS => ?_)
  have hP : va_P D am_cl [(h0, .inr (5, [.null, .null, .int 0, .int 0])), (q1, .inr (4, [.null, .int 0]))] H := hP
  have hD : va_D A [(h0, .inr (5, [.null, .null, .int 0, .int 0])), (q1, .inr (4, [.null, .int 0]))] := hD
  refine W.widen (k := 1) (n := 2) (by omega) (by omega) ?_
  refine lv_dup hx hb dc_Rea_init_8 rfl ?_
  refine lv_bipush (v := 120) hx hb dc_Rea_init_9 (by decide) ?_
  have hPc := hP.sub (ws' := [(q1, .inr (4, [.null, .int 0]))]) [1] rfl
  have hDc := hD.sub (ws' := [(q1, .inr (4, [.null, .int 0]))]) [1] (by decide) rfl
  have hKc := hK.sub (tys' := [(cI, .int)]) [0] rfl
  have hFc := va_free (wc := [(q1, .inr (4, [.null, .int 0]))]) hD hS hA [1] rfl
  refine va_callv (va_runI (As := [.int 120]) (rest := [.ref q1, .ref h0]) ⟨hx, hb, hml, hown, hts⟩ (c_Pag_init l D cI q1 H.size 120 120 (by decide) rfl (Nat.le_of_ble_eq_true rfl) rfl) (cwI 1 hts (am_GoodWs wc_Pag_init) rfl rfl rfl (hts (.initialized RX4) (am_mem (i := 111) (by decide +kernel) (by decide +kernel))) (hts (.methodLink RX5 11 (⟨RX4, "<init>", "(I)V"⟩ : MethodName)) (am_mem (i := 143) (by decide +kernel) (by decide +kernel))) (hts (.instanceMethod (⟨RX4, "<init>", "(I)V"⟩ : MethodName)) (am_mem (i := 144) (by decide +kernel) (by decide +kernel))) rfl (by decide +kernel) ⟨Nat.le_of_ble_eq_true rfl, Nat.le_of_ble_eq_true rfl⟩) ⟨fun a U g mk q => by obtain ⟨q0, q1, qP, qK, qD, qN⟩ := q; exact ⟨q0, q1, qP, va_K.moved (u := U) (U := U.calling g mk a) (Vm.Alike.refl U.vm) qK, qD, am_nsm.same (u := U) rfl qN⟩, fun U hU hW => ⟨rfl, by rw [hU], by rw [hU]; exact hPc, va_K.moved hW.alike hKc, hDc.weaken (fun _ _ _ _ => trivial), hNw.warm hW⟩⟩ rfl rfl hl.1 rfl (lv_room (Nat.le_of_ble_eq_true rfl)) dc_Rea_init_11 ⟨Nat.le_of_ble_eq_true rfl, Nat.le_of_ble_eq_true rfl⟩) hS (fun q _ h => hFc q h) hFc (fun u t H1 locs ht hvm hw hB hz1 hk1 hS => ?_)
  obtain ⟨f2, rfl⟩ : ∃ z, z = u := ⟨_, rfl⟩
  obtain ⟨hP1, hK1, hD1⟩ := hB
  rw [ht] at hP1
  obtain ⟨hP, hD⟩ := va_join (wr := [(h0, .inr (5, [.null, .null, .int 0, .int 0]))]) (w1 := [(q1, .inr (4, [.ref (f2 1), .int 0])), ((f2 1), .inl (cI, 120, .inl (fun _ => 0)))]) hP hD [1] [0] rfl rfl (by decide) (by decide) hk1 hFc hP1 hD1
  generalize H1 = H at hP hS ⊢
  have hP : va_P D am_cl [(h0, .inr (5, [.null, .null, .int 0, .int 0])), (q1, .inr (4, [.ref (f2 1), .int 0])), ((f2 1), .inl (cI, 120, .inl (fun _ => 0)))] H := hP
  have hD : va_D A [(h0, .inr (5, [.null, .null, .int 0, .int 0])), (q1, .inr (4, [.ref (f2 1), .int 0])), ((f2 1), .inl (cI, 120, .inl (fun _ => 0)))] := hD
  refine W.widen (k := 2) (n := 122) (by omega) (by omega) ?_
  refine va_putF (D := D) (ci := 5) (v := .ref q1) (ty := tyX5 0) (C := RX5) (T := TX5) (N := 4) hx hb hts am_ws5 tyX5 tyX5_ok nmX5 hown hK hP hD hS 0 rfl rfl 0 (by decide) (hts (.fieldLink RX5 14 "StatuteBook$Reader" "text" "LStatuteBook$Page;") (am_mem (i := 186) (by decide +kernel) (by decide +kernel))) (fun _ h9 => h9) rfl hin rfl (by decide +kernel) rfl rfl (Nat.le_of_ble_eq_true rfl) dc_Rea_init_14 (fun H locs hP hD hS => ?_)
  have hP : va_P D am_cl [(h0, .inr (5, [.ref q1, .null, .int 0, .int 0])), (q1, .inr (4, [.ref (f2 1), .int 0])), ((f2 1), .inl (cI, 120, .inl (fun _ => 0)))] H := hP
  have hD : va_D A [(h0, .inr (5, [.ref q1, .null, .int 0, .int 0])), (q1, .inr (4, [.ref (f2 1), .int 0])), ((f2 1), .inl (cI, 120, .inl (fun _ => 0)))] := hD
  refine lv_aload_n hx hb dc_Rea_init_17 rfl (lv_at hl 0 rfl) ?_
  refine va_new (ci := 2) (fs := [.null, .int 0, .int 0]) (C := RX2) (T := TX2) (N := 3) hx hb hts am_ws2 tyX2 tyX2_ok hown (hts (.classLink RX5 20 RX2) (am_mem (i := 158) (by decide +kernel) (by decide +kernel))) (hts (.instantiable RX2 3) (am_mem (i := 159) (by decide +kernel) (by decide +kernel))) (hts (.initialized RX2) (am_mem (i := 113) (by decide +kernel) (by decide +kernel))) hK hP hD hS hA rfl (fun j hj => by match j, hj with | 0, _ => rfl | 1, _ => rfl | 2, _ => rfl | j + 3, hj => exact absurd hj (by omega)) (Nat.le_of_ble_eq_true rfl) (Nat.le_of_ble_eq_true rfl) dc_Rea_init_18 (fun q3 H hP hD hS => ?_)
  have hP : va_P D am_cl [(h0, .inr (5, [.ref q1, .null, .int 0, .int 0])), (q1, .inr (4, [.ref (f2 1), .int 0])), ((f2 1), .inl (cI, 120, .inl (fun _ => 0))), (q3, .inr (2, [.null, .int 0, .int 0]))] H := hP
  have hD : va_D A [(h0, .inr (5, [.ref q1, .null, .int 0, .int 0])), (q1, .inr (4, [.ref (f2 1), .int 0])), ((f2 1), .inl (cI, 120, .inl (fun _ => 0))), (q3, .inr (2, [.null, .int 0, .int 0]))] := hD
  refine W.widen (k := 3) (n := 125) (by omega) (by omega) ?_
  refine lv_dup hx hb dc_Rea_init_21 rfl ?_
  have hPc := hP.sub (ws' := [(q3, .inr (2, [.null, .int 0, .int 0]))]) [3] rfl
  have hDc := hD.sub (ws' := [(q3, .inr (2, [.null, .int 0, .int 0]))]) [3] (by decide) rfl
  have hKc := hK.sub (tys' := [(cI, .int)]) [0] rfl
  have hFc := va_free (wc := [(q3, .inr (2, [.null, .int 0, .int 0]))]) hD hS hA [3] rfl
  refine va_callv (va_runIN (As := []) (rest := [.ref q3, .ref h0]) ⟨hx, hb, hml, hown, hts⟩ (c_Dra_init l D cI q3 H.size) ⟨va_cnB (host := "StatuteBook") 0 hts (am_GoodWs wc_Dra_init) rfl rfl rfl (hNw 160 _ _ _ _ (by decide +kernel)) (hts (.initialized RX2) (am_mem (i := 113) (by decide +kernel) (by decide +kernel))) (by decide +kernel) ⟨Nat.le_of_ble_eq_true rfl, Nat.le_of_ble_eq_true rfl⟩, rfl, (hts (.instanceMethod (⟨RX2, "<init>", "()V"⟩ : MethodName)) (am_mem (i := 161) (by decide +kernel) (by decide +kernel)))⟩ ⟨fun a U g mk q => by obtain ⟨q0, q1, qP, qK, qD, qN⟩ := q; exact ⟨q0, q1, qP, va_K.moved (u := U) (U := U.calling g mk a) (Vm.Alike.refl U.vm) qK, qD, am_nsm.same (u := U) rfl qN⟩, fun U hU hW => ⟨rfl, by rw [hU], by rw [hU]; exact hPc, va_K.moved hW.alike hKc, hDc.weaken (fun _ _ _ _ => trivial), hNw.warm hW⟩⟩ rfl rfl hl.1 rfl (lv_room (Nat.le_of_ble_eq_true rfl)) dc_Rea_init_22 ⟨Nat.le_of_ble_eq_true rfl, Nat.le_of_ble_eq_true rfl⟩) hS (fun q _ h => hFc q h) hFc (fun u t H1 locs ht hvm hw hB hz1 hk1 hS => ?_)
  obtain ⟨f4, rfl⟩ : ∃ z, z = u := ⟨_, rfl⟩
  obtain ⟨hP1, hK1, hD1⟩ := hB
  rw [ht] at hP1
  obtain ⟨hP, hD⟩ := va_join (wr := [(h0, .inr (5, [.ref q1, .null, .int 0, .int 0])), (q1, .inr (4, [.ref (f2 1), .int 0])), ((f2 1), .inl (cI, 120, .inl (fun _ => 0)))]) (w1 := [(q3, .inr (2, [.ref (f4 1), .int 0, .int 0])), ((f4 1), .inr (6, [.ref (f4 2)])), ((f4 2), .inl (cI, 520, .inl (fun _ => 0)))]) hP hD [3] [0, 1, 2] rfl rfl (by decide) (by decide) hk1 hFc hP1 hD1
  generalize H1 = H at hP hS ⊢
  have hP : va_P D am_cl [(h0, .inr (5, [.ref q1, .null, .int 0, .int 0])), (q1, .inr (4, [.ref (f2 1), .int 0])), ((f2 1), .inl (cI, 120, .inl (fun _ => 0))), (q3, .inr (2, [.ref (f4 1), .int 0, .int 0])), ((f4 1), .inr (6, [.ref (f4 2)])), ((f4 2), .inl (cI, 520, .inl (fun _ => 0)))] H := hP
  have hD : va_D A [(h0, .inr (5, [.ref q1, .null, .int 0, .int 0])), (q1, .inr (4, [.ref (f2 1), .int 0])), ((f2 1), .inl (cI, 120, .inl (fun _ => 0))), (q3, .inr (2, [.ref (f4 1), .int 0, .int 0])), ((f4 1), .inr (6, [.ref (f4 2)])), ((f4 2), .inl (cI, 520, .inl (fun _ => 0)))] := hD
  refine W.widen (k := 5) (n := 646) (by omega) (by omega) ?_
  refine va_putF (D := D) (ci := 5) (v := .ref q3) (ty := tyX5 1) (C := RX5) (T := TX5) (N := 4) hx hb hts am_ws5 tyX5 tyX5_ok nmX5 hown hK hP hD hS 0 rfl rfl 1 (by decide) (hts (.fieldLink RX5 23 "StatuteBook$Reader" "draft" "LStatuteBook$Draft;") (am_mem (i := 188) (by decide +kernel) (by decide +kernel))) (fun _ h9 => h9) rfl hin rfl (by decide +kernel) rfl rfl (Nat.le_of_ble_eq_true rfl) dc_Rea_init_25 (fun H locs hP hD hS => ?_)
  have hP : va_P D am_cl [(h0, .inr (5, [.ref q1, .ref q3, .int 0, .int 0])), (q1, .inr (4, [.ref (f2 1), .int 0])), ((f2 1), .inl (cI, 120, .inl (fun _ => 0))), (q3, .inr (2, [.ref (f4 1), .int 0, .int 0])), ((f4 1), .inr (6, [.ref (f4 2)])), ((f4 2), .inl (cI, 520, .inl (fun _ => 0)))] H := hP
  have hD : va_D A [(h0, .inr (5, [.ref q1, .ref q3, .int 0, .int 0])), (q1, .inr (4, [.ref (f2 1), .int 0])), ((f2 1), .inl (cI, 120, .inl (fun _ => 0))), (q3, .inr (2, [.ref (f4 1), .int 0, .int 0])), ((f4 1), .inr (6, [.ref (f4 2)])), ((f4 2), .inl (cI, 520, .inl (fun _ => 0)))] := hD
  have hP9 := hP.sub (ws' := [(h0, .inr (5, [.ref q1, .ref q3, .int 0, .int 0])), (q1, .inr (4, [.ref (f2 1), .int 0])), ((f2 1), .inl (cI, 120, .inl (fun _ => 0))), (q3, .inr (2, [.ref (f4 1), .int 0, .int 0])), ((f4 1), .inr (6, [.ref (f4 2)])), ((f4 2), .inl (cI, 520, .inl (fun _ => 0)))]) [0, 1, 2, 3, 4, 5] rfl
  exact W.vret hx hb hr (fun t ht hW => ⟨⟨(fun k => match k with | 1 => q1 | 2 => (f2 1) | 3 => q3 | 4 => (f4 1) | 5 => (f4 2) | _ => 0), rfl, trivial, by rw [ht]; exact hP9, va_K.moved hW.alike hK, hD⟩, hS.F ht⟩) hS.2.2 dc_Rea_init_28
theorem dc_SB_init_0 : decode prog_1_method_1_code 0 = .ok (.aload_n 0, 1) := by decide +kernel
theorem dc_SB_init_1 : decode prog_1_method_1_code 1 = .ok (.invokespecial 3, 3) := by decide +kernel
theorem dc_SB_init_4 : decode prog_1_method_1_code 4 = .ok (.aload_n 0, 1) := by decide +kernel
theorem dc_SB_init_5 : decode prog_1_method_1_code 5 = .ok (.new 9, 3) := by decide +kernel
theorem dc_SB_init_8 : decode prog_1_method_1_code 8 = .ok (.dup, 1) := by decide +kernel
theorem dc_SB_init_9 : decode prog_1_method_1_code 9 = .ok (.invokespecial 11, 3) := by decide +kernel
theorem dc_SB_init_12 : decode prog_1_method_1_code 12 = .ok (.putfield 12, 3) := by decide +kernel
theorem dc_SB_init_15 : decode prog_1_method_1_code 15 = .ok (.aload_n 0, 1) := by decide +kernel
theorem dc_SB_init_16 : decode prog_1_method_1_code 16 = .ok (.new 16, 3) := by decide +kernel
theorem dc_SB_init_19 : decode prog_1_method_1_code 19 = .ok (.dup, 1) := by decide +kernel
theorem dc_SB_init_20 : decode prog_1_method_1_code 20 = .ok (.sipush 1000, 3) := by decide +kernel
theorem dc_SB_init_23 : decode prog_1_method_1_code 23 = .ok (.invokespecial 18, 3) := by decide +kernel
theorem dc_SB_init_26 : decode prog_1_method_1_code 26 = .ok (.putfield 21, 3) := by decide +kernel
theorem dc_SB_init_29 : decode prog_1_method_1_code 29 = .ok (.aload_n 0, 1) := by decide +kernel
theorem dc_SB_init_30 : decode prog_1_method_1_code 30 = .ok (.new 25, 3) := by decide +kernel
theorem dc_SB_init_33 : decode prog_1_method_1_code 33 = .ok (.dup, 1) := by decide +kernel
theorem dc_SB_init_34 : decode prog_1_method_1_code 34 = .ok (.invokespecial 27, 3) := by decide +kernel
theorem dc_SB_init_37 : decode prog_1_method_1_code 37 = .ok (.putfield 28, 3) := by decide +kernel
theorem dc_SB_init_40 : decode prog_1_method_1_code 40 = .ok (.aload_n 0, 1) := by decide +kernel
theorem dc_SB_init_41 : decode prog_1_method_1_code 41 = .ok (.new 32, 3) := by decide +kernel
theorem dc_SB_init_44 : decode prog_1_method_1_code 44 = .ok (.dup, 1) := by decide +kernel
theorem dc_SB_init_45 : decode prog_1_method_1_code 45 = .ok (.invokespecial 34, 3) := by decide +kernel
theorem dc_SB_init_48 : decode prog_1_method_1_code 48 = .ok (.putfield 35, 3) := by decide +kernel
theorem dc_SB_init_51 : decode prog_1_method_1_code 51 = .ok (.aload_n 0, 1) := by decide +kernel
theorem dc_SB_init_52 : decode prog_1_method_1_code 52 = .ok (.new 39, 3) := by decide +kernel
theorem dc_SB_init_55 : decode prog_1_method_1_code 55 = .ok (.dup, 1) := by decide +kernel
theorem dc_SB_init_56 : decode prog_1_method_1_code 56 = .ok (.invokespecial 41, 3) := by decide +kernel
theorem dc_SB_init_59 : decode prog_1_method_1_code 59 = .ok (.putfield 42, 3) := by decide +kernel
theorem dc_SB_init_62 : decode prog_1_method_1_code 62 = .ok (.aload_n 0, 1) := by decide +kernel
theorem dc_SB_init_63 : decode prog_1_method_1_code 63 = .ok (.new 39, 3) := by decide +kernel
theorem dc_SB_init_66 : decode prog_1_method_1_code 66 = .ok (.dup, 1) := by decide +kernel
theorem dc_SB_init_67 : decode prog_1_method_1_code 67 = .ok (.invokespecial 41, 3) := by decide +kernel
theorem dc_SB_init_70 : decode prog_1_method_1_code 70 = .ok (.putfield 46, 3) := by decide +kernel
theorem dc_SB_init_73 : decode prog_1_method_1_code 73 = .ok (.aload_n 0, 1) := by decide +kernel
theorem dc_SB_init_74 : decode prog_1_method_1_code 74 = .ok (.new 49, 3) := by decide +kernel
theorem dc_SB_init_77 : decode prog_1_method_1_code 77 = .ok (.dup, 1) := by decide +kernel
theorem dc_SB_init_78 : decode prog_1_method_1_code 78 = .ok (.invokespecial 51, 3) := by decide +kernel
theorem dc_SB_init_81 : decode prog_1_method_1_code 81 = .ok (.putfield 52, 3) := by decide +kernel
theorem dc_SB_init_84 : decode prog_1_method_1_code 84 = .ok (.return_, 1) := by decide +kernel
theorem wc_SB_init : Cond.code ⟨RX8, "<init>", "()V"⟩ prog_1_method_1_code 1 none ∈ am_tbl := am_mem (i := 131) (by decide +kernel) (by decide +kernel)
def aw_SB (cI : ClassId) (h0 : Nat) (f : Nat → Nat) : va_W := [(h0, .inr (8, [.ref (f 1), .ref (f 7), .ref (f 9), .ref (f 12), .ref (f 15), .ref (f 34), .ref (f 53)])), ((f 1), .inr (5, [.ref (f 2), .ref (f 4), .int 0, .int 0])), ((f 2), .inr (4, [.ref (f 3), .int 0])), ((f 3), .inl (cI, 120, .inl (fun _ => 0))), ((f 4), .inr (2, [.ref (f 5), .int 0, .int 0])), ((f 5), .inr (6, [.ref (f 6)])), ((f 6), .inl (cI, 520, .inl (fun _ => 0))), ((f 7), .inr (4, [.ref (f 8), .int 0])), ((f 8), .inl (cI, 1000, .inl (fun _ => 0))), ((f 9), .inr (0, [.ref (f 10)])), ((f 10), .inr (6, [.ref (f 11)])), ((f 11), .inl (cI, 1605, .inl (fun _ => 0))), ((f 12), .inr (1, [.ref (f 13), .int 0, .int 0, .int 0])), ((f 13), .inr (6, [.ref (f 14)])), ((f 14), .inl (cI, 19260, .inl (fun _ => 0))), ((f 15), .inr (3, [.ref (f 16), .ref (f 18), .ref (f 20), .ref (f 22), .ref (f 24), .ref (f 26), .ref (f 28), .ref (f 30), .ref (f 32), .int 0, .int 0])), ((f 16), .inr (6, [.ref (f 17)])), ((f 17), .inl (cI, 40, .inl (fun _ => 0))), ((f 18), .inr (6, [.ref (f 19)])), ((f 19), .inl (cI, 40, .inl (fun _ => 0))), ((f 20), .inr (6, [.ref (f 21)])), ((f 21), .inl (cI, 40, .inl (fun _ => 0))), ((f 22), .inr (6, [.ref (f 23)])), ((f 23), .inl (cI, 240, .inl (fun _ => 0))), ((f 24), .inr (6, [.ref (f 25)])), ((f 25), .inl (cI, 40, .inl (fun _ => 0))), ((f 26), .inr (6, [.ref (f 27)])), ((f 27), .inl (cI, 120, .inl (fun _ => 0))), ((f 28), .inr (6, [.ref (f 29)])), ((f 29), .inl (cI, 120, .inl (fun _ => 0))), ((f 30), .inr (6, [.ref (f 31)])), ((f 31), .inl (cI, 120, .inl (fun _ => 0))), ((f 32), .inr (6, [.ref (f 33)])), ((f 33), .inl (cI, 6, .inl (fun _ => 0))), ((f 34), .inr (3, [.ref (f 35), .ref (f 37), .ref (f 39), .ref (f 41), .ref (f 43), .ref (f 45), .ref (f 47), .ref (f 49), .ref (f 51), .int 0, .int 0])), ((f 35), .inr (6, [.ref (f 36)])), ((f 36), .inl (cI, 40, .inl (fun _ => 0))), ((f 37), .inr (6, [.ref (f 38)])), ((f 38), .inl (cI, 40, .inl (fun _ => 0))), ((f 39), .inr (6, [.ref (f 40)])), ((f 40), .inl (cI, 40, .inl (fun _ => 0))), ((f 41), .inr (6, [.ref (f 42)])), ((f 42), .inl (cI, 240, .inl (fun _ => 0))), ((f 43), .inr (6, [.ref (f 44)])), ((f 44), .inl (cI, 40, .inl (fun _ => 0))), ((f 45), .inr (6, [.ref (f 46)])), ((f 46), .inl (cI, 120, .inl (fun _ => 0))), ((f 47), .inr (6, [.ref (f 48)])), ((f 48), .inl (cI, 120, .inl (fun _ => 0))), ((f 49), .inr (6, [.ref (f 50)])), ((f 50), .inl (cI, 120, .inl (fun _ => 0))), ((f 51), .inr (6, [.ref (f 52)])), ((f 52), .inl (cI, 6, .inl (fun _ => 0))), ((f 53), .inr (7, [.ref (f 54), .ref (f 56), .int 0, .int 0])), ((f 54), .inr (6, [.ref (f 55)])), ((f 55), .inl (cI, 40, .inl (fun _ => 0))), ((f 56), .inr (6, [.ref (f 57)])), ((f 57), .inl (cI, 40, .inl (fun _ => 0)))]
set_option maxHeartbeats 4000000 in
set_option maxRecDepth 100000 in
theorem c_SB_init (l : Launch) (D : va_G) (cI : ClassId) (h0 : Nat) (sz : Nat) : Met l ⟨RX8, "<init>", "()V"⟩ (Cond.code ⟨RX8, "<init>", "()V"⟩ prog_1_method_1_code 1 none :: am_tbl) ({ frames := 4, cells := 57, slots := 24182, locals := 82 }) (va_Pc [.ref h0] (fun U => U.heap.size = sz ∧ va_P D am_cl [(h0, .inr (8, [.null, .null, .null, .null, .null, .null, .null]))] U.heap ∧ va_K D am_cl [(cI, .int)] U ∧ va_D (fun _ => True) [(h0, .inr (8, [.null, .null, .null, .null, .null, .null, .null]))] ∧ am_nsm U)) (va_Qv (fun _ : Nat → Nat => True) (fun f t => va_P D am_cl (aw_SB cI h0 f) t.heap ∧ va_K D am_cl [(cI, .int)] t ∧ va_D (va_A [(h0, .inr (8, [.null, .null, .null, .null, .null, .null, .null]))] sz) (aw_SB cI h0 f)) (va_A [(h0, .inr (8, [.null, .null, .null, .null, .null, .null, .null]))] sz)) 57 24182 (va_A [(h0, .inr (8, [.null, .null, .null, .null, .null, .null, .null]))] sz) := by
  refine Met.ofW (cc := prog_1_method_1_code) (maxL := 1) (ret := none) (by decide) rfl ?_
  intro p e s m args below meth c s₁ B hml hv
  obtain ⟨rfl, hsz, hP, hK, hD0, hNw⟩ := hv
  have hx := B.exec
  have hb := B.bytes
  have hr := B.returns
  have hts0 := atoms_spec (ws := (Cond.code ⟨RX8, "<init>", "()V"⟩ prog_1_method_1_code 1 none :: am_tbl)) B.pre
  have hts : ∀ w ∈ am_tbl, w.before _ s = true := fun w hw => hts0 w (List.mem_cons_of_mem _ hw)
  have hown : s.vm.findClass RX8 = some m.cls := findClass_of_methodNamed B.named
  have hlocks := B.notSynchronized
  have hin : meth.name = "<init>" := (name_of_methodNamed B.named B.method).1
  subst hsz
  have hD := hD0.self (sz := s.heap.size)
  generalize hAe : va_A [(h0, .inr (8, [.null, .null, .null, .null, .null, .null, .null]))] s.heap.size = A at hD ⊢
  have hA : ∀ q : Nat, s.heap.size ≤ q → A q := fun q h => by rw [← hAe]; exact Or.inr h
  have hS : va_S A s.heap s.heap [] := va_S.rf
  have hl := lv_entry ([.ref h0]) (n := 1) (Nat.le_of_ble_eq_true rfl)
  rw [lg_entry_eq]
  generalize (lg_sl ([.ref h0]) ++ List.replicate (1 - (lg_sl ([.ref h0])).length) Slot.unset).toArray = ls at hl ⊢
  have hl : lv_has ls 1 [(0, .ref h0)] := hl
  refine lv_aload_n hx hb dc_SB_init_0 rfl (lv_at hl 0 rfl) ?_
  refine W.objInit hx hb hown (hts (.methodLink RX8 3 objectInit) (am_mem (i := 132) (by decide +kernel) (by decide +kernel))) (hts _ am_wob1) (hts _ am_wob2) rfl (by rw [hml]; exact hl.1) rfl dc_SB_init_1 (Nat.le_of_ble_eq_true rfl) (Nat.le_of_ble_eq_true rfl) ?_
  refine W.eq (g2 := F0 m 4 ls []) rfl ?_
  refine lv_aload_n hx hb dc_SB_init_4 rfl (lv_at hl 0 rfl) ?_
  refine va_new (ci := 5) (fs := [.null, .null, .int 0, .int 0]) (C := RX5) (T := TX5) (N := 4) hx hb hts am_ws5 tyX5 tyX5_ok hown (hts (.classLink RX8 9 RX5) (am_mem (i := 135) (by decide +kernel) (by decide +kernel))) (hts (.instantiable RX5 4) (am_mem (i := 136) (by decide +kernel) (by decide +kernel))) (hts (.initialized RX5) (am_mem (i := 110) (by decide +kernel) (by decide +kernel))) hK hP hD hS hA rfl (fun j hj => by match j, hj with | 0, _ => rfl | 1, _ => rfl | 2, _ => rfl | 3, _ => rfl | j + 4, hj => exact absurd hj (by omega)) (Nat.le_of_ble_eq_true rfl) (Nat.le_of_ble_eq_true rfl) dc_SB_init_5 (fun q1 H hP hD hS => ?_)
  have hP : va_P D am_cl [(h0, .inr (8, [.null, .null, .null, .null, .null, .null, .null])), (q1, .inr (5, [.null, .null, .int 0, .int 0]))] H := hP
  have hD : va_D A [(h0, .inr (8, [.null, .null, .null, .null, .null, .null, .null])), (q1, .inr (5, [.null, .null, .int 0, .int 0]))] := hD
  refine W.widen (k := 1) (n := 4) (by omega) (by omega) ?_
  refine lv_dup hx hb dc_SB_init_8 rfl ?_
  have hPc := hP.sub (ws' := [(q1, .inr (5, [.null, .null, .int 0, .int 0]))]) [1] rfl
  have hDc := hD.sub (ws' := [(q1, .inr (5, [.null, .null, .int 0, .int 0]))]) [1] (by decide) rfl
  have hKc := hK.sub (tys' := [(cI, .int)]) [0] rfl
  have hFc := va_free (wc := [(q1, .inr (5, [.null, .null, .int 0, .int 0]))]) hD hS hA [1] rfl
  refine va_callv (va_runIN (As := []) (rest := [.ref q1, .ref h0]) ⟨hx, hb, hml, hown, hts⟩ (c_Rea_init l D cI q1 H.size) ⟨va_cnB (host := "StatuteBook") 0 hts (am_GoodWs wc_Rea_init) rfl rfl rfl (hNw 137 _ _ _ _ (by decide +kernel)) (hts (.initialized RX5) (am_mem (i := 110) (by decide +kernel) (by decide +kernel))) (by decide +kernel) ⟨Nat.le_of_ble_eq_true rfl, Nat.le_of_ble_eq_true rfl⟩, rfl, (hts (.instanceMethod (⟨RX5, "<init>", "()V"⟩ : MethodName)) (am_mem (i := 138) (by decide +kernel) (by decide +kernel)))⟩ ⟨fun a U g mk q => by obtain ⟨q0, q1, qP, qK, qD, qN⟩ := q; exact ⟨q0, q1, qP, va_K.moved (u := U) (U := U.calling g mk a) (Vm.Alike.refl U.vm) qK, qD, am_nsm.same (u := U) rfl qN⟩, fun U hU hW => ⟨rfl, by rw [hU], by rw [hU]; exact hPc, va_K.moved hW.alike hKc, hDc.weaken (fun _ _ _ _ => trivial), hNw.warm hW⟩⟩ rfl rfl hl.1 rfl (lv_room (Nat.le_of_ble_eq_true rfl)) dc_SB_init_9 ⟨Nat.le_of_ble_eq_true rfl, Nat.le_of_ble_eq_true rfl⟩) hS (fun q _ h => hFc q h) hFc (fun u t H1 locs ht hvm hw hB hz1 hk1 hS => ?_)
  obtain ⟨f2, rfl⟩ : ∃ z, z = u := ⟨_, rfl⟩
  obtain ⟨hP1, hK1, hD1⟩ := hB
  rw [ht] at hP1
  obtain ⟨hP, hD⟩ := va_join (wr := [(h0, .inr (8, [.null, .null, .null, .null, .null, .null, .null]))]) (w1 := [(q1, .inr (5, [.ref (f2 1), .ref (f2 3), .int 0, .int 0])), ((f2 1), .inr (4, [.ref (f2 2), .int 0])), ((f2 2), .inl (cI, 120, .inl (fun _ => 0))), ((f2 3), .inr (2, [.ref (f2 4), .int 0, .int 0])), ((f2 4), .inr (6, [.ref (f2 5)])), ((f2 5), .inl (cI, 520, .inl (fun _ => 0)))]) hP hD [1] [0] rfl rfl (by decide) (by decide) hk1 hFc hP1 hD1
  generalize H1 = H at hP hS ⊢
  have hP : va_P D am_cl [(h0, .inr (8, [.null, .null, .null, .null, .null, .null, .null])), (q1, .inr (5, [.ref (f2 1), .ref (f2 3), .int 0, .int 0])), ((f2 1), .inr (4, [.ref (f2 2), .int 0])), ((f2 2), .inl (cI, 120, .inl (fun _ => 0))), ((f2 3), .inr (2, [.ref (f2 4), .int 0, .int 0])), ((f2 4), .inr (6, [.ref (f2 5)])), ((f2 5), .inl (cI, 520, .inl (fun _ => 0)))] H := hP
  have hD : va_D A [(h0, .inr (8, [.null, .null, .null, .null, .null, .null, .null])), (q1, .inr (5, [.ref (f2 1), .ref (f2 3), .int 0, .int 0])), ((f2 1), .inr (4, [.ref (f2 2), .int 0])), ((f2 2), .inl (cI, 120, .inl (fun _ => 0))), ((f2 3), .inr (2, [.ref (f2 4), .int 0, .int 0])), ((f2 4), .inr (6, [.ref (f2 5)])), ((f2 5), .inl (cI, 520, .inl (fun _ => 0)))] := hD
  refine W.widen (k := 6) (n := 650) (by omega) (by omega) ?_
  refine va_putF (D := D) (ci := 8) (v := .ref q1) (ty := tyX8 0) (C := RX8) (T := TX8) (N := 7) hx hb hts am_ws8 tyX8 tyX8_ok nmX8 hown hK hP hD hS 0 rfl rfl 0 (by decide) (hts (.fieldLink RX8 12 "StatuteBook" "reader" "LStatuteBook$Reader;") (am_mem (i := 300) (by decide +kernel) (by decide +kernel))) (fun _ h9 => h9) rfl hin rfl (by decide +kernel) rfl rfl (Nat.le_of_ble_eq_true rfl) dc_SB_init_12 (fun H locs hP hD hS => ?_)
  have hP : va_P D am_cl [(h0, .inr (8, [.ref q1, .null, .null, .null, .null, .null, .null])), (q1, .inr (5, [.ref (f2 1), .ref (f2 3), .int 0, .int 0])), ((f2 1), .inr (4, [.ref (f2 2), .int 0])), ((f2 2), .inl (cI, 120, .inl (fun _ => 0))), ((f2 3), .inr (2, [.ref (f2 4), .int 0, .int 0])), ((f2 4), .inr (6, [.ref (f2 5)])), ((f2 5), .inl (cI, 520, .inl (fun _ => 0)))] H := hP
  have hD : va_D A [(h0, .inr (8, [.ref q1, .null, .null, .null, .null, .null, .null])), (q1, .inr (5, [.ref (f2 1), .ref (f2 3), .int 0, .int 0])), ((f2 1), .inr (4, [.ref (f2 2), .int 0])), ((f2 2), .inl (cI, 120, .inl (fun _ => 0))), ((f2 3), .inr (2, [.ref (f2 4), .int 0, .int 0])), ((f2 4), .inr (6, [.ref (f2 5)])), ((f2 5), .inl (cI, 520, .inl (fun _ => 0)))] := hD
  refine lv_aload_n hx hb dc_SB_init_15 rfl (lv_at hl 0 rfl) ?_
  refine va_new (ci := 4) (fs := [.null, .int 0]) (C := RX4) (T := TX4) (N := 2) hx hb hts am_ws4 tyX4 tyX4_ok hown (hts (.classLink RX8 16 RX4) (am_mem (i := 201) (by decide +kernel) (by decide +kernel))) (hts (.instantiable RX4 2) (am_mem (i := 142) (by decide +kernel) (by decide +kernel))) (hts (.initialized RX4) (am_mem (i := 111) (by decide +kernel) (by decide +kernel))) hK hP hD hS hA rfl (fun j hj => by match j, hj with | 0, _ => rfl | 1, _ => rfl | j + 2, hj => exact absurd hj (by omega)) (Nat.le_of_ble_eq_true rfl) (Nat.le_of_ble_eq_true rfl) dc_SB_init_16 (fun q3 H hP hD hS => ?_)
  have hP : va_P D am_cl [(h0, .inr (8, [.ref q1, .null, .null, .null, .null, .null, .null])), (q1, .inr (5, [.ref (f2 1), .ref (f2 3), .int 0, .int 0])), ((f2 1), .inr (4, [.ref (f2 2), .int 0])), ((f2 2), .inl (cI, 120, .inl (fun _ => 0))), ((f2 3), .inr (2, [.ref (f2 4), .int 0, .int 0])), ((f2 4), .inr (6, [.ref (f2 5)])), ((f2 5), .inl (cI, 520, .inl (fun _ => 0))), (q3, .inr (4, [.null, .int 0]))] H := hP
  have hD : va_D A [(h0, .inr (8, [.ref q1, .null, .null, .null, .null, .null, .null])), (q1, .inr (5, [.ref (f2 1), .ref (f2 3), .int 0, .int 0])), ((f2 1), .inr (4, [.ref (f2 2), .int 0])), ((f2 2), .inl (cI, 120, .inl (fun _ => 0))), ((f2 3), .inr (2, [.ref (f2 4), .int 0, .int 0])), ((f2 4), .inr (6, [.ref (f2 5)])), ((f2 5), .inl (cI, 520, .inl (fun _ => 0))), (q3, .inr (4, [.null, .int 0]))] := hD
  refine W.widen (k := 7) (n := 652) (by omega) (by omega) ?_
  refine lv_dup hx hb dc_SB_init_19 rfl ?_
  refine lv_sipush (v := 1000) hx hb dc_SB_init_20 (by decide) ?_
  have hPc := hP.sub (ws' := [(q3, .inr (4, [.null, .int 0]))]) [7] rfl
  have hDc := hD.sub (ws' := [(q3, .inr (4, [.null, .int 0]))]) [7] (by decide) rfl
  have hKc := hK.sub (tys' := [(cI, .int)]) [0] rfl
  have hFc := va_free (wc := [(q3, .inr (4, [.null, .int 0]))]) hD hS hA [7] rfl
  refine va_callv (va_runI (As := [.int 1000]) (rest := [.ref q3, .ref h0]) ⟨hx, hb, hml, hown, hts⟩ (c_Pag_init l D cI q3 H.size 1000 1000 (by decide) rfl (Nat.le_of_ble_eq_true rfl) rfl) (cwI 1 hts (am_GoodWs wc_Pag_init) rfl rfl rfl (hts (.initialized RX4) (am_mem (i := 111) (by decide +kernel) (by decide +kernel))) (hts (.methodLink RX8 18 (⟨RX4, "<init>", "(I)V"⟩ : MethodName)) (am_mem (i := 202) (by decide +kernel) (by decide +kernel))) (hts (.instanceMethod (⟨RX4, "<init>", "(I)V"⟩ : MethodName)) (am_mem (i := 144) (by decide +kernel) (by decide +kernel))) rfl (by decide +kernel) ⟨Nat.le_of_ble_eq_true rfl, Nat.le_of_ble_eq_true rfl⟩) ⟨fun a U g mk q => by obtain ⟨q0, q1, qP, qK, qD, qN⟩ := q; exact ⟨q0, q1, qP, va_K.moved (u := U) (U := U.calling g mk a) (Vm.Alike.refl U.vm) qK, qD, am_nsm.same (u := U) rfl qN⟩, fun U hU hW => ⟨rfl, by rw [hU], by rw [hU]; exact hPc, va_K.moved hW.alike hKc, hDc.weaken (fun _ _ _ _ => trivial), hNw.warm hW⟩⟩ rfl rfl hl.1 rfl (lv_room (Nat.le_of_ble_eq_true rfl)) dc_SB_init_23 ⟨Nat.le_of_ble_eq_true rfl, Nat.le_of_ble_eq_true rfl⟩) hS (fun q _ h => hFc q h) hFc (fun u t H1 locs ht hvm hw hB hz1 hk1 hS => ?_)
  obtain ⟨f4, rfl⟩ : ∃ z, z = u := ⟨_, rfl⟩
  obtain ⟨hP1, hK1, hD1⟩ := hB
  rw [ht] at hP1
  obtain ⟨hP, hD⟩ := va_join (wr := [(h0, .inr (8, [.ref q1, .null, .null, .null, .null, .null, .null])), (q1, .inr (5, [.ref (f2 1), .ref (f2 3), .int 0, .int 0])), ((f2 1), .inr (4, [.ref (f2 2), .int 0])), ((f2 2), .inl (cI, 120, .inl (fun _ => 0))), ((f2 3), .inr (2, [.ref (f2 4), .int 0, .int 0])), ((f2 4), .inr (6, [.ref (f2 5)])), ((f2 5), .inl (cI, 520, .inl (fun _ => 0)))]) (w1 := [(q3, .inr (4, [.ref (f4 1), .int 0])), ((f4 1), .inl (cI, 1000, .inl (fun _ => 0)))]) hP hD [7] [0, 1, 2, 3, 4, 5, 6] rfl rfl (by decide) (by decide) hk1 hFc hP1 hD1
  generalize H1 = H at hP hS ⊢
  have hP : va_P D am_cl [(h0, .inr (8, [.ref q1, .null, .null, .null, .null, .null, .null])), (q1, .inr (5, [.ref (f2 1), .ref (f2 3), .int 0, .int 0])), ((f2 1), .inr (4, [.ref (f2 2), .int 0])), ((f2 2), .inl (cI, 120, .inl (fun _ => 0))), ((f2 3), .inr (2, [.ref (f2 4), .int 0, .int 0])), ((f2 4), .inr (6, [.ref (f2 5)])), ((f2 5), .inl (cI, 520, .inl (fun _ => 0))), (q3, .inr (4, [.ref (f4 1), .int 0])), ((f4 1), .inl (cI, 1000, .inl (fun _ => 0)))] H := hP
  have hD : va_D A [(h0, .inr (8, [.ref q1, .null, .null, .null, .null, .null, .null])), (q1, .inr (5, [.ref (f2 1), .ref (f2 3), .int 0, .int 0])), ((f2 1), .inr (4, [.ref (f2 2), .int 0])), ((f2 2), .inl (cI, 120, .inl (fun _ => 0))), ((f2 3), .inr (2, [.ref (f2 4), .int 0, .int 0])), ((f2 4), .inr (6, [.ref (f2 5)])), ((f2 5), .inl (cI, 520, .inl (fun _ => 0))), (q3, .inr (4, [.ref (f4 1), .int 0])), ((f4 1), .inl (cI, 1000, .inl (fun _ => 0)))] := hD
  refine W.widen (k := 8) (n := 1652) (by omega) (by omega) ?_
  refine va_putF (D := D) (ci := 8) (v := .ref q3) (ty := tyX8 1) (C := RX8) (T := TX8) (N := 7) hx hb hts am_ws8 tyX8 tyX8_ok nmX8 hown hK hP hD hS 0 rfl rfl 1 (by decide) (hts (.fieldLink RX8 21 "StatuteBook" "output" "LStatuteBook$Page;") (am_mem (i := 301) (by decide +kernel) (by decide +kernel))) (fun _ h9 => h9) rfl hin rfl (by decide +kernel) rfl rfl (Nat.le_of_ble_eq_true rfl) dc_SB_init_26 (fun H locs hP hD hS => ?_)
  have hP : va_P D am_cl [(h0, .inr (8, [.ref q1, .ref q3, .null, .null, .null, .null, .null])), (q1, .inr (5, [.ref (f2 1), .ref (f2 3), .int 0, .int 0])), ((f2 1), .inr (4, [.ref (f2 2), .int 0])), ((f2 2), .inl (cI, 120, .inl (fun _ => 0))), ((f2 3), .inr (2, [.ref (f2 4), .int 0, .int 0])), ((f2 4), .inr (6, [.ref (f2 5)])), ((f2 5), .inl (cI, 520, .inl (fun _ => 0))), (q3, .inr (4, [.ref (f4 1), .int 0])), ((f4 1), .inl (cI, 1000, .inl (fun _ => 0)))] H := hP
  have hD : va_D A [(h0, .inr (8, [.ref q1, .ref q3, .null, .null, .null, .null, .null])), (q1, .inr (5, [.ref (f2 1), .ref (f2 3), .int 0, .int 0])), ((f2 1), .inr (4, [.ref (f2 2), .int 0])), ((f2 2), .inl (cI, 120, .inl (fun _ => 0))), ((f2 3), .inr (2, [.ref (f2 4), .int 0, .int 0])), ((f2 4), .inr (6, [.ref (f2 5)])), ((f2 5), .inl (cI, 520, .inl (fun _ => 0))), (q3, .inr (4, [.ref (f4 1), .int 0])), ((f4 1), .inl (cI, 1000, .inl (fun _ => 0)))] := hD
  refine lv_aload_n hx hb dc_SB_init_29 rfl (lv_at hl 0 rfl) ?_
  refine va_new (ci := 0) (fs := [.null]) (C := RX0) (T := TX0) (N := 1) hx hb hts am_ws0 tyX0 tyX0_ok hown (hts (.classLink RX8 25 RX0) (am_mem (i := 203) (by decide +kernel) (by decide +kernel))) (hts (.instantiable RX0 1) (am_mem (i := 204) (by decide +kernel) (by decide +kernel))) (hts (.initialized RX0) (am_mem (i := 115) (by decide +kernel) (by decide +kernel))) hK hP hD hS hA rfl (fun j hj => by match j, hj with | 0, _ => rfl | j + 1, hj => exact absurd hj (by omega)) (Nat.le_of_ble_eq_true rfl) (Nat.le_of_ble_eq_true rfl) dc_SB_init_30 (fun q5 H hP hD hS => ?_)
  have hP : va_P D am_cl [(h0, .inr (8, [.ref q1, .ref q3, .null, .null, .null, .null, .null])), (q1, .inr (5, [.ref (f2 1), .ref (f2 3), .int 0, .int 0])), ((f2 1), .inr (4, [.ref (f2 2), .int 0])), ((f2 2), .inl (cI, 120, .inl (fun _ => 0))), ((f2 3), .inr (2, [.ref (f2 4), .int 0, .int 0])), ((f2 4), .inr (6, [.ref (f2 5)])), ((f2 5), .inl (cI, 520, .inl (fun _ => 0))), (q3, .inr (4, [.ref (f4 1), .int 0])), ((f4 1), .inl (cI, 1000, .inl (fun _ => 0))), (q5, .inr (0, [.null]))] H := hP
  have hD : va_D A [(h0, .inr (8, [.ref q1, .ref q3, .null, .null, .null, .null, .null])), (q1, .inr (5, [.ref (f2 1), .ref (f2 3), .int 0, .int 0])), ((f2 1), .inr (4, [.ref (f2 2), .int 0])), ((f2 2), .inl (cI, 120, .inl (fun _ => 0))), ((f2 3), .inr (2, [.ref (f2 4), .int 0, .int 0])), ((f2 4), .inr (6, [.ref (f2 5)])), ((f2 5), .inl (cI, 520, .inl (fun _ => 0))), (q3, .inr (4, [.ref (f4 1), .int 0])), ((f4 1), .inl (cI, 1000, .inl (fun _ => 0))), (q5, .inr (0, [.null]))] := hD
  refine W.widen (k := 9) (n := 1653) (by omega) (by omega) ?_
  refine lv_dup hx hb dc_SB_init_33 rfl ?_
  have hPc := hP.sub (ws' := [(q5, .inr (0, [.null]))]) [9] rfl
  have hDc := hD.sub (ws' := [(q5, .inr (0, [.null]))]) [9] (by decide) rfl
  have hKc := hK.sub (tys' := [(cI, .int)]) [0] rfl
  have hFc := va_free (wc := [(q5, .inr (0, [.null]))]) hD hS hA [9] rfl
  refine va_callv (va_runIN (As := []) (rest := [.ref q5, .ref h0]) ⟨hx, hb, hml, hown, hts⟩ (c_Amd_init l D cI q5 H.size) ⟨va_cnB (host := "StatuteBook") 0 hts (am_GoodWs wc_Amd_init) rfl rfl rfl (hNw 205 _ _ _ _ (by decide +kernel)) (hts (.initialized RX0) (am_mem (i := 115) (by decide +kernel) (by decide +kernel))) (by decide +kernel) ⟨Nat.le_of_ble_eq_true rfl, Nat.le_of_ble_eq_true rfl⟩, rfl, (hts (.instanceMethod (⟨RX0, "<init>", "()V"⟩ : MethodName)) (am_mem (i := 206) (by decide +kernel) (by decide +kernel)))⟩ ⟨fun a U g mk q => by obtain ⟨q0, q1, qP, qK, qD, qN⟩ := q; exact ⟨q0, q1, qP, va_K.moved (u := U) (U := U.calling g mk a) (Vm.Alike.refl U.vm) qK, qD, am_nsm.same (u := U) rfl qN⟩, fun U hU hW => ⟨rfl, by rw [hU], by rw [hU]; exact hPc, va_K.moved hW.alike hKc, hDc.weaken (fun _ _ _ _ => trivial), hNw.warm hW⟩⟩ rfl rfl hl.1 rfl (lv_room (Nat.le_of_ble_eq_true rfl)) dc_SB_init_34 ⟨Nat.le_of_ble_eq_true rfl, Nat.le_of_ble_eq_true rfl⟩) hS (fun q _ h => hFc q h) hFc (fun u t H1 locs ht hvm hw hB hz1 hk1 hS => ?_)
  obtain ⟨f6, rfl⟩ : ∃ z, z = u := ⟨_, rfl⟩
  obtain ⟨hP1, hK1, hD1⟩ := hB
  rw [ht] at hP1
  obtain ⟨hP, hD⟩ := va_join (wr := [(h0, .inr (8, [.ref q1, .ref q3, .null, .null, .null, .null, .null])), (q1, .inr (5, [.ref (f2 1), .ref (f2 3), .int 0, .int 0])), ((f2 1), .inr (4, [.ref (f2 2), .int 0])), ((f2 2), .inl (cI, 120, .inl (fun _ => 0))), ((f2 3), .inr (2, [.ref (f2 4), .int 0, .int 0])), ((f2 4), .inr (6, [.ref (f2 5)])), ((f2 5), .inl (cI, 520, .inl (fun _ => 0))), (q3, .inr (4, [.ref (f4 1), .int 0])), ((f4 1), .inl (cI, 1000, .inl (fun _ => 0)))]) (w1 := [(q5, .inr (0, [.ref (f6 1)])), ((f6 1), .inr (6, [.ref (f6 2)])), ((f6 2), .inl (cI, 1605, .inl (fun _ => 0)))]) hP hD [9] [0, 1, 2, 3, 4, 5, 6, 7, 8] rfl rfl (by decide) (by decide) hk1 hFc hP1 hD1
  generalize H1 = H at hP hS ⊢
  have hP : va_P D am_cl [(h0, .inr (8, [.ref q1, .ref q3, .null, .null, .null, .null, .null])), (q1, .inr (5, [.ref (f2 1), .ref (f2 3), .int 0, .int 0])), ((f2 1), .inr (4, [.ref (f2 2), .int 0])), ((f2 2), .inl (cI, 120, .inl (fun _ => 0))), ((f2 3), .inr (2, [.ref (f2 4), .int 0, .int 0])), ((f2 4), .inr (6, [.ref (f2 5)])), ((f2 5), .inl (cI, 520, .inl (fun _ => 0))), (q3, .inr (4, [.ref (f4 1), .int 0])), ((f4 1), .inl (cI, 1000, .inl (fun _ => 0))), (q5, .inr (0, [.ref (f6 1)])), ((f6 1), .inr (6, [.ref (f6 2)])), ((f6 2), .inl (cI, 1605, .inl (fun _ => 0)))] H := hP
  have hD : va_D A [(h0, .inr (8, [.ref q1, .ref q3, .null, .null, .null, .null, .null])), (q1, .inr (5, [.ref (f2 1), .ref (f2 3), .int 0, .int 0])), ((f2 1), .inr (4, [.ref (f2 2), .int 0])), ((f2 2), .inl (cI, 120, .inl (fun _ => 0))), ((f2 3), .inr (2, [.ref (f2 4), .int 0, .int 0])), ((f2 4), .inr (6, [.ref (f2 5)])), ((f2 5), .inl (cI, 520, .inl (fun _ => 0))), (q3, .inr (4, [.ref (f4 1), .int 0])), ((f4 1), .inl (cI, 1000, .inl (fun _ => 0))), (q5, .inr (0, [.ref (f6 1)])), ((f6 1), .inr (6, [.ref (f6 2)])), ((f6 2), .inl (cI, 1605, .inl (fun _ => 0)))] := hD
  refine W.widen (k := 11) (n := 3259) (by omega) (by omega) ?_
  refine va_putF (D := D) (ci := 8) (v := .ref q5) (ty := tyX8 2) (C := RX8) (T := TX8) (N := 7) hx hb hts am_ws8 tyX8 tyX8_ok nmX8 hown hK hP hD hS 0 rfl rfl 2 (by decide) (hts (.fieldLink RX8 28 "StatuteBook" "book" "LStatuteBook$Amendments;") (am_mem (i := 302) (by decide +kernel) (by decide +kernel))) (fun _ h9 => h9) rfl hin rfl (by decide +kernel) rfl rfl (Nat.le_of_ble_eq_true rfl) dc_SB_init_37 (fun H locs hP hD hS => ?_)
  have hP : va_P D am_cl [(h0, .inr (8, [.ref q1, .ref q3, .ref q5, .null, .null, .null, .null])), (q1, .inr (5, [.ref (f2 1), .ref (f2 3), .int 0, .int 0])), ((f2 1), .inr (4, [.ref (f2 2), .int 0])), ((f2 2), .inl (cI, 120, .inl (fun _ => 0))), ((f2 3), .inr (2, [.ref (f2 4), .int 0, .int 0])), ((f2 4), .inr (6, [.ref (f2 5)])), ((f2 5), .inl (cI, 520, .inl (fun _ => 0))), (q3, .inr (4, [.ref (f4 1), .int 0])), ((f4 1), .inl (cI, 1000, .inl (fun _ => 0))), (q5, .inr (0, [.ref (f6 1)])), ((f6 1), .inr (6, [.ref (f6 2)])), ((f6 2), .inl (cI, 1605, .inl (fun _ => 0)))] H := hP
  have hD : va_D A [(h0, .inr (8, [.ref q1, .ref q3, .ref q5, .null, .null, .null, .null])), (q1, .inr (5, [.ref (f2 1), .ref (f2 3), .int 0, .int 0])), ((f2 1), .inr (4, [.ref (f2 2), .int 0])), ((f2 2), .inl (cI, 120, .inl (fun _ => 0))), ((f2 3), .inr (2, [.ref (f2 4), .int 0, .int 0])), ((f2 4), .inr (6, [.ref (f2 5)])), ((f2 5), .inl (cI, 520, .inl (fun _ => 0))), (q3, .inr (4, [.ref (f4 1), .int 0])), ((f4 1), .inl (cI, 1000, .inl (fun _ => 0))), (q5, .inr (0, [.ref (f6 1)])), ((f6 1), .inr (6, [.ref (f6 2)])), ((f6 2), .inl (cI, 1605, .inl (fun _ => 0)))] := hD
  refine lv_aload_n hx hb dc_SB_init_40 rfl (lv_at hl 0 rfl) ?_
  refine va_new (ci := 1) (fs := [.null, .int 0, .int 0, .int 0]) (C := RX1) (T := TX1) (N := 4) hx hb hts am_ws1 tyX1 tyX1_ok hown (hts (.classLink RX8 32 RX1) (am_mem (i := 216) (by decide +kernel) (by decide +kernel))) (hts (.instantiable RX1 4) (am_mem (i := 217) (by decide +kernel) (by decide +kernel))) (hts (.initialized RX1) (am_mem (i := 116) (by decide +kernel) (by decide +kernel))) hK hP hD hS hA rfl (fun j hj => by match j, hj with | 0, _ => rfl | 1, _ => rfl | 2, _ => rfl | 3, _ => rfl | j + 4, hj => exact absurd hj (by omega)) (Nat.le_of_ble_eq_true rfl) (Nat.le_of_ble_eq_true rfl) dc_SB_init_41 (fun q7 H hP hD hS => ?_)
  have hP : va_P D am_cl [(h0, .inr (8, [.ref q1, .ref q3, .ref q5, .null, .null, .null, .null])), (q1, .inr (5, [.ref (f2 1), .ref (f2 3), .int 0, .int 0])), ((f2 1), .inr (4, [.ref (f2 2), .int 0])), ((f2 2), .inl (cI, 120, .inl (fun _ => 0))), ((f2 3), .inr (2, [.ref (f2 4), .int 0, .int 0])), ((f2 4), .inr (6, [.ref (f2 5)])), ((f2 5), .inl (cI, 520, .inl (fun _ => 0))), (q3, .inr (4, [.ref (f4 1), .int 0])), ((f4 1), .inl (cI, 1000, .inl (fun _ => 0))), (q5, .inr (0, [.ref (f6 1)])), ((f6 1), .inr (6, [.ref (f6 2)])), ((f6 2), .inl (cI, 1605, .inl (fun _ => 0))), (q7, .inr (1, [.null, .int 0, .int 0, .int 0]))] H := hP
  have hD : va_D A [(h0, .inr (8, [.ref q1, .ref q3, .ref q5, .null, .null, .null, .null])), (q1, .inr (5, [.ref (f2 1), .ref (f2 3), .int 0, .int 0])), ((f2 1), .inr (4, [.ref (f2 2), .int 0])), ((f2 2), .inl (cI, 120, .inl (fun _ => 0))), ((f2 3), .inr (2, [.ref (f2 4), .int 0, .int 0])), ((f2 4), .inr (6, [.ref (f2 5)])), ((f2 5), .inl (cI, 520, .inl (fun _ => 0))), (q3, .inr (4, [.ref (f4 1), .int 0])), ((f4 1), .inl (cI, 1000, .inl (fun _ => 0))), (q5, .inr (0, [.ref (f6 1)])), ((f6 1), .inr (6, [.ref (f6 2)])), ((f6 2), .inl (cI, 1605, .inl (fun _ => 0))), (q7, .inr (1, [.null, .int 0, .int 0, .int 0]))] := hD
  refine W.widen (k := 12) (n := 3263) (by omega) (by omega) ?_
  refine lv_dup hx hb dc_SB_init_44 rfl ?_
  have hPc := hP.sub (ws' := [(q7, .inr (1, [.null, .int 0, .int 0, .int 0]))]) [12] rfl
  have hDc := hD.sub (ws' := [(q7, .inr (1, [.null, .int 0, .int 0, .int 0]))]) [12] (by decide) rfl
  have hKc := hK.sub (tys' := [(cI, .int)]) [0] rfl
  have hFc := va_free (wc := [(q7, .inr (1, [.null, .int 0, .int 0, .int 0]))]) hD hS hA [12] rfl
  refine va_callv (va_runIN (As := []) (rest := [.ref q7, .ref h0]) ⟨hx, hb, hml, hown, hts⟩ (c_Arc_init l D cI q7 H.size) ⟨va_cnB (host := "StatuteBook") 0 hts (am_GoodWs wc_Arc_init) rfl rfl rfl (hNw 218 _ _ _ _ (by decide +kernel)) (hts (.initialized RX1) (am_mem (i := 116) (by decide +kernel) (by decide +kernel))) (by decide +kernel) ⟨Nat.le_of_ble_eq_true rfl, Nat.le_of_ble_eq_true rfl⟩, rfl, (hts (.instanceMethod (⟨RX1, "<init>", "()V"⟩ : MethodName)) (am_mem (i := 219) (by decide +kernel) (by decide +kernel)))⟩ ⟨fun a U g mk q => by obtain ⟨q0, q1, qP, qK, qD, qN⟩ := q; exact ⟨q0, q1, qP, va_K.moved (u := U) (U := U.calling g mk a) (Vm.Alike.refl U.vm) qK, qD, am_nsm.same (u := U) rfl qN⟩, fun U hU hW => ⟨rfl, by rw [hU], by rw [hU]; exact hPc, va_K.moved hW.alike hKc, hDc.weaken (fun _ _ _ _ => trivial), hNw.warm hW⟩⟩ rfl rfl hl.1 rfl (lv_room (Nat.le_of_ble_eq_true rfl)) dc_SB_init_45 ⟨Nat.le_of_ble_eq_true rfl, Nat.le_of_ble_eq_true rfl⟩) hS (fun q _ h => hFc q h) hFc (fun u t H1 locs ht hvm hw hB hz1 hk1 hS => ?_)
  obtain ⟨f8, rfl⟩ : ∃ z, z = u := ⟨_, rfl⟩
  obtain ⟨hP1, hK1, hD1⟩ := hB
  rw [ht] at hP1
  obtain ⟨hP, hD⟩ := va_join (wr := [(h0, .inr (8, [.ref q1, .ref q3, .ref q5, .null, .null, .null, .null])), (q1, .inr (5, [.ref (f2 1), .ref (f2 3), .int 0, .int 0])), ((f2 1), .inr (4, [.ref (f2 2), .int 0])), ((f2 2), .inl (cI, 120, .inl (fun _ => 0))), ((f2 3), .inr (2, [.ref (f2 4), .int 0, .int 0])), ((f2 4), .inr (6, [.ref (f2 5)])), ((f2 5), .inl (cI, 520, .inl (fun _ => 0))), (q3, .inr (4, [.ref (f4 1), .int 0])), ((f4 1), .inl (cI, 1000, .inl (fun _ => 0))), (q5, .inr (0, [.ref (f6 1)])), ((f6 1), .inr (6, [.ref (f6 2)])), ((f6 2), .inl (cI, 1605, .inl (fun _ => 0)))]) (w1 := [(q7, .inr (1, [.ref (f8 1), .int 0, .int 0, .int 0])), ((f8 1), .inr (6, [.ref (f8 2)])), ((f8 2), .inl (cI, 19260, .inl (fun _ => 0)))]) hP hD [12] [0, 1, 2, 3, 4, 5, 6, 7, 8, 9, 10, 11] rfl rfl (by decide) (by decide) hk1 hFc hP1 hD1
  generalize H1 = H at hP hS ⊢
  have hP : va_P D am_cl [(h0, .inr (8, [.ref q1, .ref q3, .ref q5, .null, .null, .null, .null])), (q1, .inr (5, [.ref (f2 1), .ref (f2 3), .int 0, .int 0])), ((f2 1), .inr (4, [.ref (f2 2), .int 0])), ((f2 2), .inl (cI, 120, .inl (fun _ => 0))), ((f2 3), .inr (2, [.ref (f2 4), .int 0, .int 0])), ((f2 4), .inr (6, [.ref (f2 5)])), ((f2 5), .inl (cI, 520, .inl (fun _ => 0))), (q3, .inr (4, [.ref (f4 1), .int 0])), ((f4 1), .inl (cI, 1000, .inl (fun _ => 0))), (q5, .inr (0, [.ref (f6 1)])), ((f6 1), .inr (6, [.ref (f6 2)])), ((f6 2), .inl (cI, 1605, .inl (fun _ => 0))), (q7, .inr (1, [.ref (f8 1), .int 0, .int 0, .int 0])), ((f8 1), .inr (6, [.ref (f8 2)])), ((f8 2), .inl (cI, 19260, .inl (fun _ => 0)))] H := hP
  have hD : va_D A [(h0, .inr (8, [.ref q1, .ref q3, .ref q5, .null, .null, .null, .null])), (q1, .inr (5, [.ref (f2 1), .ref (f2 3), .int 0, .int 0])), ((f2 1), .inr (4, [.ref (f2 2), .int 0])), ((f2 2), .inl (cI, 120, .inl (fun _ => 0))), ((f2 3), .inr (2, [.ref (f2 4), .int 0, .int 0])), ((f2 4), .inr (6, [.ref (f2 5)])), ((f2 5), .inl (cI, 520, .inl (fun _ => 0))), (q3, .inr (4, [.ref (f4 1), .int 0])), ((f4 1), .inl (cI, 1000, .inl (fun _ => 0))), (q5, .inr (0, [.ref (f6 1)])), ((f6 1), .inr (6, [.ref (f6 2)])), ((f6 2), .inl (cI, 1605, .inl (fun _ => 0))), (q7, .inr (1, [.ref (f8 1), .int 0, .int 0, .int 0])), ((f8 1), .inr (6, [.ref (f8 2)])), ((f8 2), .inl (cI, 19260, .inl (fun _ => 0)))] := hD
  refine W.widen (k := 14) (n := 22524) (by omega) (by omega) ?_
  refine va_putF (D := D) (ci := 8) (v := .ref q7) (ty := tyX8 3) (C := RX8) (T := TX8) (N := 7) hx hb hts am_ws8 tyX8 tyX8_ok nmX8 hown hK hP hD hS 0 rfl rfl 3 (by decide) (hts (.fieldLink RX8 35 "StatuteBook" "archive" "LStatuteBook$Archive;") (am_mem (i := 303) (by decide +kernel) (by decide +kernel))) (fun _ h9 => h9) rfl hin rfl (by decide +kernel) rfl rfl (Nat.le_of_ble_eq_true rfl) dc_SB_init_48 (fun H locs hP hD hS => ?_)
  have hP : va_P D am_cl [(h0, .inr (8, [.ref q1, .ref q3, .ref q5, .ref q7, .null, .null, .null])), (q1, .inr (5, [.ref (f2 1), .ref (f2 3), .int 0, .int 0])), ((f2 1), .inr (4, [.ref (f2 2), .int 0])), ((f2 2), .inl (cI, 120, .inl (fun _ => 0))), ((f2 3), .inr (2, [.ref (f2 4), .int 0, .int 0])), ((f2 4), .inr (6, [.ref (f2 5)])), ((f2 5), .inl (cI, 520, .inl (fun _ => 0))), (q3, .inr (4, [.ref (f4 1), .int 0])), ((f4 1), .inl (cI, 1000, .inl (fun _ => 0))), (q5, .inr (0, [.ref (f6 1)])), ((f6 1), .inr (6, [.ref (f6 2)])), ((f6 2), .inl (cI, 1605, .inl (fun _ => 0))), (q7, .inr (1, [.ref (f8 1), .int 0, .int 0, .int 0])), ((f8 1), .inr (6, [.ref (f8 2)])), ((f8 2), .inl (cI, 19260, .inl (fun _ => 0)))] H := hP
  have hD : va_D A [(h0, .inr (8, [.ref q1, .ref q3, .ref q5, .ref q7, .null, .null, .null])), (q1, .inr (5, [.ref (f2 1), .ref (f2 3), .int 0, .int 0])), ((f2 1), .inr (4, [.ref (f2 2), .int 0])), ((f2 2), .inl (cI, 120, .inl (fun _ => 0))), ((f2 3), .inr (2, [.ref (f2 4), .int 0, .int 0])), ((f2 4), .inr (6, [.ref (f2 5)])), ((f2 5), .inl (cI, 520, .inl (fun _ => 0))), (q3, .inr (4, [.ref (f4 1), .int 0])), ((f4 1), .inl (cI, 1000, .inl (fun _ => 0))), (q5, .inr (0, [.ref (f6 1)])), ((f6 1), .inr (6, [.ref (f6 2)])), ((f6 2), .inl (cI, 1605, .inl (fun _ => 0))), (q7, .inr (1, [.ref (f8 1), .int 0, .int 0, .int 0])), ((f8 1), .inr (6, [.ref (f8 2)])), ((f8 2), .inl (cI, 19260, .inl (fun _ => 0)))] := hD
  refine lv_aload_n hx hb dc_SB_init_51 rfl (lv_at hl 0 rfl) ?_
  refine va_new (ci := 3) (fs := [.null, .null, .null, .null, .null, .null, .null, .null, .null, .int 0, .int 0]) (C := RX3) (T := TX3) (N := 11) hx hb hts am_ws3 tyX3 tyX3_ok hown (hts (.classLink RX8 39 RX3) (am_mem (i := 237) (by decide +kernel) (by decide +kernel))) (hts (.instantiable RX3 11) (am_mem (i := 238) (by decide +kernel) (by decide +kernel))) (hts (.initialized RX3) (am_mem (i := 117) (by decide +kernel) (by decide +kernel))) hK hP hD hS hA rfl (fun j hj => by match j, hj with | 0, _ => rfl | 1, _ => rfl | 2, _ => rfl | 3, _ => rfl | 4, _ => rfl | 5, _ => rfl | 6, _ => rfl | 7, _ => rfl | 8, _ => rfl | 9, _ => rfl | 10, _ => rfl | j + 11, hj => exact absurd hj (by omega)) (Nat.le_of_ble_eq_true rfl) (Nat.le_of_ble_eq_true rfl) dc_SB_init_52 (fun q9 H hP hD hS => ?_)
  have hP : va_P D am_cl [(h0, .inr (8, [.ref q1, .ref q3, .ref q5, .ref q7, .null, .null, .null])), (q1, .inr (5, [.ref (f2 1), .ref (f2 3), .int 0, .int 0])), ((f2 1), .inr (4, [.ref (f2 2), .int 0])), ((f2 2), .inl (cI, 120, .inl (fun _ => 0))), ((f2 3), .inr (2, [.ref (f2 4), .int 0, .int 0])), ((f2 4), .inr (6, [.ref (f2 5)])), ((f2 5), .inl (cI, 520, .inl (fun _ => 0))), (q3, .inr (4, [.ref (f4 1), .int 0])), ((f4 1), .inl (cI, 1000, .inl (fun _ => 0))), (q5, .inr (0, [.ref (f6 1)])), ((f6 1), .inr (6, [.ref (f6 2)])), ((f6 2), .inl (cI, 1605, .inl (fun _ => 0))), (q7, .inr (1, [.ref (f8 1), .int 0, .int 0, .int 0])), ((f8 1), .inr (6, [.ref (f8 2)])), ((f8 2), .inl (cI, 19260, .inl (fun _ => 0))), (q9, .inr (3, [.null, .null, .null, .null, .null, .null, .null, .null, .null, .int 0, .int 0]))] H := hP
  have hD : va_D A [(h0, .inr (8, [.ref q1, .ref q3, .ref q5, .ref q7, .null, .null, .null])), (q1, .inr (5, [.ref (f2 1), .ref (f2 3), .int 0, .int 0])), ((f2 1), .inr (4, [.ref (f2 2), .int 0])), ((f2 2), .inl (cI, 120, .inl (fun _ => 0))), ((f2 3), .inr (2, [.ref (f2 4), .int 0, .int 0])), ((f2 4), .inr (6, [.ref (f2 5)])), ((f2 5), .inl (cI, 520, .inl (fun _ => 0))), (q3, .inr (4, [.ref (f4 1), .int 0])), ((f4 1), .inl (cI, 1000, .inl (fun _ => 0))), (q5, .inr (0, [.ref (f6 1)])), ((f6 1), .inr (6, [.ref (f6 2)])), ((f6 2), .inl (cI, 1605, .inl (fun _ => 0))), (q7, .inr (1, [.ref (f8 1), .int 0, .int 0, .int 0])), ((f8 1), .inr (6, [.ref (f8 2)])), ((f8 2), .inl (cI, 19260, .inl (fun _ => 0))), (q9, .inr (3, [.null, .null, .null, .null, .null, .null, .null, .null, .null, .int 0, .int 0]))] := hD
  refine W.widen (k := 15) (n := 22535) (by omega) (by omega) ?_
  refine lv_dup hx hb dc_SB_init_55 rfl ?_
  have hPc := hP.sub (ws' := [(q9, .inr (3, [.null, .null, .null, .null, .null, .null, .null, .null, .null, .int 0, .int 0]))]) [15] rfl
  have hDc := hD.sub (ws' := [(q9, .inr (3, [.null, .null, .null, .null, .null, .null, .null, .null, .null, .int 0, .int 0]))]) [15] (by decide) rfl
  have hKc := hK.sub (tys' := [(cI, .int)]) [0] rfl
  have hFc := va_free (wc := [(q9, .inr (3, [.null, .null, .null, .null, .null, .null, .null, .null, .null, .int 0, .int 0]))]) hD hS hA [15] rfl
  refine va_callv (va_runIN (As := []) (rest := [.ref q9, .ref h0]) ⟨hx, hb, hml, hown, hts⟩ (c_Law_init l D cI q9 H.size) ⟨va_cnB (host := "StatuteBook") 0 hts (am_GoodWs wc_Law_init) rfl rfl rfl (hNw 239 _ _ _ _ (by decide +kernel)) (hts (.initialized RX3) (am_mem (i := 117) (by decide +kernel) (by decide +kernel))) (by decide +kernel) ⟨Nat.le_of_ble_eq_true rfl, Nat.le_of_ble_eq_true rfl⟩, rfl, (hts (.instanceMethod (⟨RX3, "<init>", "()V"⟩ : MethodName)) (am_mem (i := 240) (by decide +kernel) (by decide +kernel)))⟩ ⟨fun a U g mk q => by obtain ⟨q0, q1, qP, qK, qD, qN⟩ := q; exact ⟨q0, q1, qP, va_K.moved (u := U) (U := U.calling g mk a) (Vm.Alike.refl U.vm) qK, qD, am_nsm.same (u := U) rfl qN⟩, fun U hU hW => ⟨rfl, by rw [hU], by rw [hU]; exact hPc, va_K.moved hW.alike hKc, hDc.weaken (fun _ _ _ _ => trivial), hNw.warm hW⟩⟩ rfl rfl hl.1 rfl (lv_room (Nat.le_of_ble_eq_true rfl)) dc_SB_init_56 ⟨Nat.le_of_ble_eq_true rfl, Nat.le_of_ble_eq_true rfl⟩) hS (fun q _ h => hFc q h) hFc (fun u t H1 locs ht hvm hw hB hz1 hk1 hS => ?_)
  obtain ⟨f10, rfl⟩ : ∃ z, z = u := ⟨_, rfl⟩
  obtain ⟨hP1, hK1, hD1⟩ := hB
  rw [ht] at hP1
  obtain ⟨hP, hD⟩ := va_join (wr := [(h0, .inr (8, [.ref q1, .ref q3, .ref q5, .ref q7, .null, .null, .null])), (q1, .inr (5, [.ref (f2 1), .ref (f2 3), .int 0, .int 0])), ((f2 1), .inr (4, [.ref (f2 2), .int 0])), ((f2 2), .inl (cI, 120, .inl (fun _ => 0))), ((f2 3), .inr (2, [.ref (f2 4), .int 0, .int 0])), ((f2 4), .inr (6, [.ref (f2 5)])), ((f2 5), .inl (cI, 520, .inl (fun _ => 0))), (q3, .inr (4, [.ref (f4 1), .int 0])), ((f4 1), .inl (cI, 1000, .inl (fun _ => 0))), (q5, .inr (0, [.ref (f6 1)])), ((f6 1), .inr (6, [.ref (f6 2)])), ((f6 2), .inl (cI, 1605, .inl (fun _ => 0))), (q7, .inr (1, [.ref (f8 1), .int 0, .int 0, .int 0])), ((f8 1), .inr (6, [.ref (f8 2)])), ((f8 2), .inl (cI, 19260, .inl (fun _ => 0)))]) (w1 := [(q9, .inr (3, [.ref (f10 1), .ref (f10 3), .ref (f10 5), .ref (f10 7), .ref (f10 9), .ref (f10 11), .ref (f10 13), .ref (f10 15), .ref (f10 17), .int 0, .int 0])), ((f10 1), .inr (6, [.ref (f10 2)])), ((f10 2), .inl (cI, 40, .inl (fun _ => 0))), ((f10 3), .inr (6, [.ref (f10 4)])), ((f10 4), .inl (cI, 40, .inl (fun _ => 0))), ((f10 5), .inr (6, [.ref (f10 6)])), ((f10 6), .inl (cI, 40, .inl (fun _ => 0))), ((f10 7), .inr (6, [.ref (f10 8)])), ((f10 8), .inl (cI, 240, .inl (fun _ => 0))), ((f10 9), .inr (6, [.ref (f10 10)])), ((f10 10), .inl (cI, 40, .inl (fun _ => 0))), ((f10 11), .inr (6, [.ref (f10 12)])), ((f10 12), .inl (cI, 120, .inl (fun _ => 0))), ((f10 13), .inr (6, [.ref (f10 14)])), ((f10 14), .inl (cI, 120, .inl (fun _ => 0))), ((f10 15), .inr (6, [.ref (f10 16)])), ((f10 16), .inl (cI, 120, .inl (fun _ => 0))), ((f10 17), .inr (6, [.ref (f10 18)])), ((f10 18), .inl (cI, 6, .inl (fun _ => 0)))]) hP hD [15] [0, 1, 2, 3, 4, 5, 6, 7, 8, 9, 10, 11, 12, 13, 14] rfl rfl (by decide) (by decide) hk1 hFc hP1 hD1
  generalize H1 = H at hP hS ⊢
  have hP : va_P D am_cl [(h0, .inr (8, [.ref q1, .ref q3, .ref q5, .ref q7, .null, .null, .null])), (q1, .inr (5, [.ref (f2 1), .ref (f2 3), .int 0, .int 0])), ((f2 1), .inr (4, [.ref (f2 2), .int 0])), ((f2 2), .inl (cI, 120, .inl (fun _ => 0))), ((f2 3), .inr (2, [.ref (f2 4), .int 0, .int 0])), ((f2 4), .inr (6, [.ref (f2 5)])), ((f2 5), .inl (cI, 520, .inl (fun _ => 0))), (q3, .inr (4, [.ref (f4 1), .int 0])), ((f4 1), .inl (cI, 1000, .inl (fun _ => 0))), (q5, .inr (0, [.ref (f6 1)])), ((f6 1), .inr (6, [.ref (f6 2)])), ((f6 2), .inl (cI, 1605, .inl (fun _ => 0))), (q7, .inr (1, [.ref (f8 1), .int 0, .int 0, .int 0])), ((f8 1), .inr (6, [.ref (f8 2)])), ((f8 2), .inl (cI, 19260, .inl (fun _ => 0))), (q9, .inr (3, [.ref (f10 1), .ref (f10 3), .ref (f10 5), .ref (f10 7), .ref (f10 9), .ref (f10 11), .ref (f10 13), .ref (f10 15), .ref (f10 17), .int 0, .int 0])), ((f10 1), .inr (6, [.ref (f10 2)])), ((f10 2), .inl (cI, 40, .inl (fun _ => 0))), ((f10 3), .inr (6, [.ref (f10 4)])), ((f10 4), .inl (cI, 40, .inl (fun _ => 0))), ((f10 5), .inr (6, [.ref (f10 6)])), ((f10 6), .inl (cI, 40, .inl (fun _ => 0))), ((f10 7), .inr (6, [.ref (f10 8)])), ((f10 8), .inl (cI, 240, .inl (fun _ => 0))), ((f10 9), .inr (6, [.ref (f10 10)])), ((f10 10), .inl (cI, 40, .inl (fun _ => 0))), ((f10 11), .inr (6, [.ref (f10 12)])), ((f10 12), .inl (cI, 120, .inl (fun _ => 0))), ((f10 13), .inr (6, [.ref (f10 14)])), ((f10 14), .inl (cI, 120, .inl (fun _ => 0))), ((f10 15), .inr (6, [.ref (f10 16)])), ((f10 16), .inl (cI, 120, .inl (fun _ => 0))), ((f10 17), .inr (6, [.ref (f10 18)])), ((f10 18), .inl (cI, 6, .inl (fun _ => 0)))] H := hP
  have hD : va_D A [(h0, .inr (8, [.ref q1, .ref q3, .ref q5, .ref q7, .null, .null, .null])), (q1, .inr (5, [.ref (f2 1), .ref (f2 3), .int 0, .int 0])), ((f2 1), .inr (4, [.ref (f2 2), .int 0])), ((f2 2), .inl (cI, 120, .inl (fun _ => 0))), ((f2 3), .inr (2, [.ref (f2 4), .int 0, .int 0])), ((f2 4), .inr (6, [.ref (f2 5)])), ((f2 5), .inl (cI, 520, .inl (fun _ => 0))), (q3, .inr (4, [.ref (f4 1), .int 0])), ((f4 1), .inl (cI, 1000, .inl (fun _ => 0))), (q5, .inr (0, [.ref (f6 1)])), ((f6 1), .inr (6, [.ref (f6 2)])), ((f6 2), .inl (cI, 1605, .inl (fun _ => 0))), (q7, .inr (1, [.ref (f8 1), .int 0, .int 0, .int 0])), ((f8 1), .inr (6, [.ref (f8 2)])), ((f8 2), .inl (cI, 19260, .inl (fun _ => 0))), (q9, .inr (3, [.ref (f10 1), .ref (f10 3), .ref (f10 5), .ref (f10 7), .ref (f10 9), .ref (f10 11), .ref (f10 13), .ref (f10 15), .ref (f10 17), .int 0, .int 0])), ((f10 1), .inr (6, [.ref (f10 2)])), ((f10 2), .inl (cI, 40, .inl (fun _ => 0))), ((f10 3), .inr (6, [.ref (f10 4)])), ((f10 4), .inl (cI, 40, .inl (fun _ => 0))), ((f10 5), .inr (6, [.ref (f10 6)])), ((f10 6), .inl (cI, 40, .inl (fun _ => 0))), ((f10 7), .inr (6, [.ref (f10 8)])), ((f10 8), .inl (cI, 240, .inl (fun _ => 0))), ((f10 9), .inr (6, [.ref (f10 10)])), ((f10 10), .inl (cI, 40, .inl (fun _ => 0))), ((f10 11), .inr (6, [.ref (f10 12)])), ((f10 12), .inl (cI, 120, .inl (fun _ => 0))), ((f10 13), .inr (6, [.ref (f10 14)])), ((f10 14), .inl (cI, 120, .inl (fun _ => 0))), ((f10 15), .inr (6, [.ref (f10 16)])), ((f10 16), .inl (cI, 120, .inl (fun _ => 0))), ((f10 17), .inr (6, [.ref (f10 18)])), ((f10 18), .inl (cI, 6, .inl (fun _ => 0)))] := hD
  refine W.widen (k := 33) (n := 23310) (by omega) (by omega) ?_
  refine va_putF (D := D) (ci := 8) (v := .ref q9) (ty := tyX8 4) (C := RX8) (T := TX8) (N := 7) hx hb hts am_ws8 tyX8 tyX8_ok nmX8 hown hK hP hD hS 0 rfl rfl 4 (by decide) (hts (.fieldLink RX8 42 "StatuteBook" "law" "LStatuteBook$Law;") (am_mem (i := 304) (by decide +kernel) (by decide +kernel))) (fun _ h9 => h9) rfl hin rfl (by decide +kernel) rfl rfl (Nat.le_of_ble_eq_true rfl) dc_SB_init_59 (fun H locs hP hD hS => ?_)
  have hP : va_P D am_cl [(h0, .inr (8, [.ref q1, .ref q3, .ref q5, .ref q7, .ref q9, .null, .null])), (q1, .inr (5, [.ref (f2 1), .ref (f2 3), .int 0, .int 0])), ((f2 1), .inr (4, [.ref (f2 2), .int 0])), ((f2 2), .inl (cI, 120, .inl (fun _ => 0))), ((f2 3), .inr (2, [.ref (f2 4), .int 0, .int 0])), ((f2 4), .inr (6, [.ref (f2 5)])), ((f2 5), .inl (cI, 520, .inl (fun _ => 0))), (q3, .inr (4, [.ref (f4 1), .int 0])), ((f4 1), .inl (cI, 1000, .inl (fun _ => 0))), (q5, .inr (0, [.ref (f6 1)])), ((f6 1), .inr (6, [.ref (f6 2)])), ((f6 2), .inl (cI, 1605, .inl (fun _ => 0))), (q7, .inr (1, [.ref (f8 1), .int 0, .int 0, .int 0])), ((f8 1), .inr (6, [.ref (f8 2)])), ((f8 2), .inl (cI, 19260, .inl (fun _ => 0))), (q9, .inr (3, [.ref (f10 1), .ref (f10 3), .ref (f10 5), .ref (f10 7), .ref (f10 9), .ref (f10 11), .ref (f10 13), .ref (f10 15), .ref (f10 17), .int 0, .int 0])), ((f10 1), .inr (6, [.ref (f10 2)])), ((f10 2), .inl (cI, 40, .inl (fun _ => 0))), ((f10 3), .inr (6, [.ref (f10 4)])), ((f10 4), .inl (cI, 40, .inl (fun _ => 0))), ((f10 5), .inr (6, [.ref (f10 6)])), ((f10 6), .inl (cI, 40, .inl (fun _ => 0))), ((f10 7), .inr (6, [.ref (f10 8)])), ((f10 8), .inl (cI, 240, .inl (fun _ => 0))), ((f10 9), .inr (6, [.ref (f10 10)])), ((f10 10), .inl (cI, 40, .inl (fun _ => 0))), ((f10 11), .inr (6, [.ref (f10 12)])), ((f10 12), .inl (cI, 120, .inl (fun _ => 0))), ((f10 13), .inr (6, [.ref (f10 14)])), ((f10 14), .inl (cI, 120, .inl (fun _ => 0))), ((f10 15), .inr (6, [.ref (f10 16)])), ((f10 16), .inl (cI, 120, .inl (fun _ => 0))), ((f10 17), .inr (6, [.ref (f10 18)])), ((f10 18), .inl (cI, 6, .inl (fun _ => 0)))] H := hP
  have hD : va_D A [(h0, .inr (8, [.ref q1, .ref q3, .ref q5, .ref q7, .ref q9, .null, .null])), (q1, .inr (5, [.ref (f2 1), .ref (f2 3), .int 0, .int 0])), ((f2 1), .inr (4, [.ref (f2 2), .int 0])), ((f2 2), .inl (cI, 120, .inl (fun _ => 0))), ((f2 3), .inr (2, [.ref (f2 4), .int 0, .int 0])), ((f2 4), .inr (6, [.ref (f2 5)])), ((f2 5), .inl (cI, 520, .inl (fun _ => 0))), (q3, .inr (4, [.ref (f4 1), .int 0])), ((f4 1), .inl (cI, 1000, .inl (fun _ => 0))), (q5, .inr (0, [.ref (f6 1)])), ((f6 1), .inr (6, [.ref (f6 2)])), ((f6 2), .inl (cI, 1605, .inl (fun _ => 0))), (q7, .inr (1, [.ref (f8 1), .int 0, .int 0, .int 0])), ((f8 1), .inr (6, [.ref (f8 2)])), ((f8 2), .inl (cI, 19260, .inl (fun _ => 0))), (q9, .inr (3, [.ref (f10 1), .ref (f10 3), .ref (f10 5), .ref (f10 7), .ref (f10 9), .ref (f10 11), .ref (f10 13), .ref (f10 15), .ref (f10 17), .int 0, .int 0])), ((f10 1), .inr (6, [.ref (f10 2)])), ((f10 2), .inl (cI, 40, .inl (fun _ => 0))), ((f10 3), .inr (6, [.ref (f10 4)])), ((f10 4), .inl (cI, 40, .inl (fun _ => 0))), ((f10 5), .inr (6, [.ref (f10 6)])), ((f10 6), .inl (cI, 40, .inl (fun _ => 0))), ((f10 7), .inr (6, [.ref (f10 8)])), ((f10 8), .inl (cI, 240, .inl (fun _ => 0))), ((f10 9), .inr (6, [.ref (f10 10)])), ((f10 10), .inl (cI, 40, .inl (fun _ => 0))), ((f10 11), .inr (6, [.ref (f10 12)])), ((f10 12), .inl (cI, 120, .inl (fun _ => 0))), ((f10 13), .inr (6, [.ref (f10 14)])), ((f10 14), .inl (cI, 120, .inl (fun _ => 0))), ((f10 15), .inr (6, [.ref (f10 16)])), ((f10 16), .inl (cI, 120, .inl (fun _ => 0))), ((f10 17), .inr (6, [.ref (f10 18)])), ((f10 18), .inl (cI, 6, .inl (fun _ => 0)))] := hD
  refine lv_aload_n hx hb dc_SB_init_62 rfl (lv_at hl 0 rfl) ?_
  refine va_new (ci := 3) (fs := [.null, .null, .null, .null, .null, .null, .null, .null, .null, .int 0, .int 0]) (C := RX3) (T := TX3) (N := 11) hx hb hts am_ws3 tyX3 tyX3_ok hown (hts (.classLink RX8 39 RX3) (am_mem (i := 237) (by decide +kernel) (by decide +kernel))) (hts (.instantiable RX3 11) (am_mem (i := 238) (by decide +kernel) (by decide +kernel))) (hts (.initialized RX3) (am_mem (i := 117) (by decide +kernel) (by decide +kernel))) hK hP hD hS hA rfl (fun j hj => by match j, hj with | 0, _ => rfl | 1, _ => rfl | 2, _ => rfl | 3, _ => rfl | 4, _ => rfl | 5, _ => rfl | 6, _ => rfl | 7, _ => rfl | 8, _ => rfl | 9, _ => rfl | 10, _ => rfl | j + 11, hj => exact absurd hj (by omega)) (Nat.le_of_ble_eq_true rfl) (Nat.le_of_ble_eq_true rfl) dc_SB_init_63 (fun q11 H hP hD hS => ?_)
  have hP : va_P D am_cl [(h0, .inr (8, [.ref q1, .ref q3, .ref q5, .ref q7, .ref q9, .null, .null])), (q1, .inr (5, [.ref (f2 1), .ref (f2 3), .int 0, .int 0])), ((f2 1), .inr (4, [.ref (f2 2), .int 0])), ((f2 2), .inl (cI, 120, .inl (fun _ => 0))), ((f2 3), .inr (2, [.ref (f2 4), .int 0, .int 0])), ((f2 4), .inr (6, [.ref (f2 5)])), ((f2 5), .inl (cI, 520, .inl (fun _ => 0))), (q3, .inr (4, [.ref (f4 1), .int 0])), ((f4 1), .inl (cI, 1000, .inl (fun _ => 0))), (q5, .inr (0, [.ref (f6 1)])), ((f6 1), .inr (6, [.ref (f6 2)])), ((f6 2), .inl (cI, 1605, .inl (fun _ => 0))), (q7, .inr (1, [.ref (f8 1), .int 0, .int 0, .int 0])), ((f8 1), .inr (6, [.ref (f8 2)])), ((f8 2), .inl (cI, 19260, .inl (fun _ => 0))), (q9, .inr (3, [.ref (f10 1), .ref (f10 3), .ref (f10 5), .ref (f10 7), .ref (f10 9), .ref (f10 11), .ref (f10 13), .ref (f10 15), .ref (f10 17), .int 0, .int 0])), ((f10 1), .inr (6, [.ref (f10 2)])), ((f10 2), .inl (cI, 40, .inl (fun _ => 0))), ((f10 3), .inr (6, [.ref (f10 4)])), ((f10 4), .inl (cI, 40, .inl (fun _ => 0))), ((f10 5), .inr (6, [.ref (f10 6)])), ((f10 6), .inl (cI, 40, .inl (fun _ => 0))), ((f10 7), .inr (6, [.ref (f10 8)])), ((f10 8), .inl (cI, 240, .inl (fun _ => 0))), ((f10 9), .inr (6, [.ref (f10 10)])), ((f10 10), .inl (cI, 40, .inl (fun _ => 0))), ((f10 11), .inr (6, [.ref (f10 12)])), ((f10 12), .inl (cI, 120, .inl (fun _ => 0))), ((f10 13), .inr (6, [.ref (f10 14)])), ((f10 14), .inl (cI, 120, .inl (fun _ => 0))), ((f10 15), .inr (6, [.ref (f10 16)])), ((f10 16), .inl (cI, 120, .inl (fun _ => 0))), ((f10 17), .inr (6, [.ref (f10 18)])), ((f10 18), .inl (cI, 6, .inl (fun _ => 0))), (q11, .inr (3, [.null, .null, .null, .null, .null, .null, .null, .null, .null, .int 0, .int 0]))] H := hP
  have hD : va_D A [(h0, .inr (8, [.ref q1, .ref q3, .ref q5, .ref q7, .ref q9, .null, .null])), (q1, .inr (5, [.ref (f2 1), .ref (f2 3), .int 0, .int 0])), ((f2 1), .inr (4, [.ref (f2 2), .int 0])), ((f2 2), .inl (cI, 120, .inl (fun _ => 0))), ((f2 3), .inr (2, [.ref (f2 4), .int 0, .int 0])), ((f2 4), .inr (6, [.ref (f2 5)])), ((f2 5), .inl (cI, 520, .inl (fun _ => 0))), (q3, .inr (4, [.ref (f4 1), .int 0])), ((f4 1), .inl (cI, 1000, .inl (fun _ => 0))), (q5, .inr (0, [.ref (f6 1)])), ((f6 1), .inr (6, [.ref (f6 2)])), ((f6 2), .inl (cI, 1605, .inl (fun _ => 0))), (q7, .inr (1, [.ref (f8 1), .int 0, .int 0, .int 0])), ((f8 1), .inr (6, [.ref (f8 2)])), ((f8 2), .inl (cI, 19260, .inl (fun _ => 0))), (q9, .inr (3, [.ref (f10 1), .ref (f10 3), .ref (f10 5), .ref (f10 7), .ref (f10 9), .ref (f10 11), .ref (f10 13), .ref (f10 15), .ref (f10 17), .int 0, .int 0])), ((f10 1), .inr (6, [.ref (f10 2)])), ((f10 2), .inl (cI, 40, .inl (fun _ => 0))), ((f10 3), .inr (6, [.ref (f10 4)])), ((f10 4), .inl (cI, 40, .inl (fun _ => 0))), ((f10 5), .inr (6, [.ref (f10 6)])), ((f10 6), .inl (cI, 40, .inl (fun _ => 0))), ((f10 7), .inr (6, [.ref (f10 8)])), ((f10 8), .inl (cI, 240, .inl (fun _ => 0))), ((f10 9), .inr (6, [.ref (f10 10)])), ((f10 10), .inl (cI, 40, .inl (fun _ => 0))), ((f10 11), .inr (6, [.ref (f10 12)])), ((f10 12), .inl (cI, 120, .inl (fun _ => 0))), ((f10 13), .inr (6, [.ref (f10 14)])), ((f10 14), .inl (cI, 120, .inl (fun _ => 0))), ((f10 15), .inr (6, [.ref (f10 16)])), ((f10 16), .inl (cI, 120, .inl (fun _ => 0))), ((f10 17), .inr (6, [.ref (f10 18)])), ((f10 18), .inl (cI, 6, .inl (fun _ => 0))), (q11, .inr (3, [.null, .null, .null, .null, .null, .null, .null, .null, .null, .int 0, .int 0]))] := hD
  refine W.widen (k := 34) (n := 23321) (by omega) (by omega) ?_
  refine lv_dup hx hb dc_SB_init_66 rfl ?_
  have hPc := hP.sub (ws' := [(q11, .inr (3, [.null, .null, .null, .null, .null, .null, .null, .null, .null, .int 0, .int 0]))]) [34] rfl
  have hDc := hD.sub (ws' := [(q11, .inr (3, [.null, .null, .null, .null, .null, .null, .null, .null, .null, .int 0, .int 0]))]) [34] (by decide) rfl
  have hKc := hK.sub (tys' := [(cI, .int)]) [0] rfl
  have hFc := va_free (wc := [(q11, .inr (3, [.null, .null, .null, .null, .null, .null, .null, .null, .null, .int 0, .int 0]))]) hD hS hA [34] rfl
  refine va_callv (va_runIN (As := []) (rest := [.ref q11, .ref h0]) ⟨hx, hb, hml, hown, hts⟩ (c_Law_init l D cI q11 H.size) ⟨va_cnB (host := "StatuteBook") 0 hts (am_GoodWs wc_Law_init) rfl rfl rfl (hNw 239 _ _ _ _ (by decide +kernel)) (hts (.initialized RX3) (am_mem (i := 117) (by decide +kernel) (by decide +kernel))) (by decide +kernel) ⟨Nat.le_of_ble_eq_true rfl, Nat.le_of_ble_eq_true rfl⟩, rfl, (hts (.instanceMethod (⟨RX3, "<init>", "()V"⟩ : MethodName)) (am_mem (i := 240) (by decide +kernel) (by decide +kernel)))⟩ ⟨fun a U g mk q => by obtain ⟨q0, q1, qP, qK, qD, qN⟩ := q; exact ⟨q0, q1, qP, va_K.moved (u := U) (U := U.calling g mk a) (Vm.Alike.refl U.vm) qK, qD, am_nsm.same (u := U) rfl qN⟩, fun U hU hW => ⟨rfl, by rw [hU], by rw [hU]; exact hPc, va_K.moved hW.alike hKc, hDc.weaken (fun _ _ _ _ => trivial), hNw.warm hW⟩⟩ rfl rfl hl.1 rfl (lv_room (Nat.le_of_ble_eq_true rfl)) dc_SB_init_67 ⟨Nat.le_of_ble_eq_true rfl, Nat.le_of_ble_eq_true rfl⟩) hS (fun q _ h => hFc q h) hFc (fun u t H1 locs ht hvm hw hB hz1 hk1 hS => ?_)
  obtain ⟨f12, rfl⟩ : ∃ z, z = u := ⟨_, rfl⟩
  obtain ⟨hP1, hK1, hD1⟩ := hB
  rw [ht] at hP1
  obtain ⟨hP, hD⟩ := va_join (wr := [(h0, .inr (8, [.ref q1, .ref q3, .ref q5, .ref q7, .ref q9, .null, .null])), (q1, .inr (5, [.ref (f2 1), .ref (f2 3), .int 0, .int 0])), ((f2 1), .inr (4, [.ref (f2 2), .int 0])), ((f2 2), .inl (cI, 120, .inl (fun _ => 0))), ((f2 3), .inr (2, [.ref (f2 4), .int 0, .int 0])), ((f2 4), .inr (6, [.ref (f2 5)])), ((f2 5), .inl (cI, 520, .inl (fun _ => 0))), (q3, .inr (4, [.ref (f4 1), .int 0])), ((f4 1), .inl (cI, 1000, .inl (fun _ => 0))), (q5, .inr (0, [.ref (f6 1)])), ((f6 1), .inr (6, [.ref (f6 2)])), ((f6 2), .inl (cI, 1605, .inl (fun _ => 0))), (q7, .inr (1, [.ref (f8 1), .int 0, .int 0, .int 0])), ((f8 1), .inr (6, [.ref (f8 2)])), ((f8 2), .inl (cI, 19260, .inl (fun _ => 0))), (q9, .inr (3, [.ref (f10 1), .ref (f10 3), .ref (f10 5), .ref (f10 7), .ref (f10 9), .ref (f10 11), .ref (f10 13), .ref (f10 15), .ref (f10 17), .int 0, .int 0])), ((f10 1), .inr (6, [.ref (f10 2)])), ((f10 2), .inl (cI, 40, .inl (fun _ => 0))), ((f10 3), .inr (6, [.ref (f10 4)])), ((f10 4), .inl (cI, 40, .inl (fun _ => 0))), ((f10 5), .inr (6, [.ref (f10 6)])), ((f10 6), .inl (cI, 40, .inl (fun _ => 0))), ((f10 7), .inr (6, [.ref (f10 8)])), ((f10 8), .inl (cI, 240, .inl (fun _ => 0))), ((f10 9), .inr (6, [.ref (f10 10)])), ((f10 10), .inl (cI, 40, .inl (fun _ => 0))), ((f10 11), .inr (6, [.ref (f10 12)])), ((f10 12), .inl (cI, 120, .inl (fun _ => 0))), ((f10 13), .inr (6, [.ref (f10 14)])), ((f10 14), .inl (cI, 120, .inl (fun _ => 0))), ((f10 15), .inr (6, [.ref (f10 16)])), ((f10 16), .inl (cI, 120, .inl (fun _ => 0))), ((f10 17), .inr (6, [.ref (f10 18)])), ((f10 18), .inl (cI, 6, .inl (fun _ => 0)))]) (w1 := [(q11, .inr (3, [.ref (f12 1), .ref (f12 3), .ref (f12 5), .ref (f12 7), .ref (f12 9), .ref (f12 11), .ref (f12 13), .ref (f12 15), .ref (f12 17), .int 0, .int 0])), ((f12 1), .inr (6, [.ref (f12 2)])), ((f12 2), .inl (cI, 40, .inl (fun _ => 0))), ((f12 3), .inr (6, [.ref (f12 4)])), ((f12 4), .inl (cI, 40, .inl (fun _ => 0))), ((f12 5), .inr (6, [.ref (f12 6)])), ((f12 6), .inl (cI, 40, .inl (fun _ => 0))), ((f12 7), .inr (6, [.ref (f12 8)])), ((f12 8), .inl (cI, 240, .inl (fun _ => 0))), ((f12 9), .inr (6, [.ref (f12 10)])), ((f12 10), .inl (cI, 40, .inl (fun _ => 0))), ((f12 11), .inr (6, [.ref (f12 12)])), ((f12 12), .inl (cI, 120, .inl (fun _ => 0))), ((f12 13), .inr (6, [.ref (f12 14)])), ((f12 14), .inl (cI, 120, .inl (fun _ => 0))), ((f12 15), .inr (6, [.ref (f12 16)])), ((f12 16), .inl (cI, 120, .inl (fun _ => 0))), ((f12 17), .inr (6, [.ref (f12 18)])), ((f12 18), .inl (cI, 6, .inl (fun _ => 0)))]) hP hD [34] [0, 1, 2, 3, 4, 5, 6, 7, 8, 9, 10, 11, 12, 13, 14, 15, 16, 17, 18, 19, 20, 21, 22, 23, 24, 25, 26, 27, 28, 29, 30, 31, 32, 33] rfl rfl (by decide) (by decide) hk1 hFc hP1 hD1
  generalize H1 = H at hP hS ⊢
  have hP : va_P D am_cl [(h0, .inr (8, [.ref q1, .ref q3, .ref q5, .ref q7, .ref q9, .null, .null])), (q1, .inr (5, [.ref (f2 1), .ref (f2 3), .int 0, .int 0])), ((f2 1), .inr (4, [.ref (f2 2), .int 0])), ((f2 2), .inl (cI, 120, .inl (fun _ => 0))), ((f2 3), .inr (2, [.ref (f2 4), .int 0, .int 0])), ((f2 4), .inr (6, [.ref (f2 5)])), ((f2 5), .inl (cI, 520, .inl (fun _ => 0))), (q3, .inr (4, [.ref (f4 1), .int 0])), ((f4 1), .inl (cI, 1000, .inl (fun _ => 0))), (q5, .inr (0, [.ref (f6 1)])), ((f6 1), .inr (6, [.ref (f6 2)])), ((f6 2), .inl (cI, 1605, .inl (fun _ => 0))), (q7, .inr (1, [.ref (f8 1), .int 0, .int 0, .int 0])), ((f8 1), .inr (6, [.ref (f8 2)])), ((f8 2), .inl (cI, 19260, .inl (fun _ => 0))), (q9, .inr (3, [.ref (f10 1), .ref (f10 3), .ref (f10 5), .ref (f10 7), .ref (f10 9), .ref (f10 11), .ref (f10 13), .ref (f10 15), .ref (f10 17), .int 0, .int 0])), ((f10 1), .inr (6, [.ref (f10 2)])), ((f10 2), .inl (cI, 40, .inl (fun _ => 0))), ((f10 3), .inr (6, [.ref (f10 4)])), ((f10 4), .inl (cI, 40, .inl (fun _ => 0))), ((f10 5), .inr (6, [.ref (f10 6)])), ((f10 6), .inl (cI, 40, .inl (fun _ => 0))), ((f10 7), .inr (6, [.ref (f10 8)])), ((f10 8), .inl (cI, 240, .inl (fun _ => 0))), ((f10 9), .inr (6, [.ref (f10 10)])), ((f10 10), .inl (cI, 40, .inl (fun _ => 0))), ((f10 11), .inr (6, [.ref (f10 12)])), ((f10 12), .inl (cI, 120, .inl (fun _ => 0))), ((f10 13), .inr (6, [.ref (f10 14)])), ((f10 14), .inl (cI, 120, .inl (fun _ => 0))), ((f10 15), .inr (6, [.ref (f10 16)])), ((f10 16), .inl (cI, 120, .inl (fun _ => 0))), ((f10 17), .inr (6, [.ref (f10 18)])), ((f10 18), .inl (cI, 6, .inl (fun _ => 0))), (q11, .inr (3, [.ref (f12 1), .ref (f12 3), .ref (f12 5), .ref (f12 7), .ref (f12 9), .ref (f12 11), .ref (f12 13), .ref (f12 15), .ref (f12 17), .int 0, .int 0])), ((f12 1), .inr (6, [.ref (f12 2)])), ((f12 2), .inl (cI, 40, .inl (fun _ => 0))), ((f12 3), .inr (6, [.ref (f12 4)])), ((f12 4), .inl (cI, 40, .inl (fun _ => 0))), ((f12 5), .inr (6, [.ref (f12 6)])), ((f12 6), .inl (cI, 40, .inl (fun _ => 0))), ((f12 7), .inr (6, [.ref (f12 8)])), ((f12 8), .inl (cI, 240, .inl (fun _ => 0))), ((f12 9), .inr (6, [.ref (f12 10)])), ((f12 10), .inl (cI, 40, .inl (fun _ => 0))), ((f12 11), .inr (6, [.ref (f12 12)])), ((f12 12), .inl (cI, 120, .inl (fun _ => 0))), ((f12 13), .inr (6, [.ref (f12 14)])), ((f12 14), .inl (cI, 120, .inl (fun _ => 0))), ((f12 15), .inr (6, [.ref (f12 16)])), ((f12 16), .inl (cI, 120, .inl (fun _ => 0))), ((f12 17), .inr (6, [.ref (f12 18)])), ((f12 18), .inl (cI, 6, .inl (fun _ => 0)))] H := hP
  have hD : va_D A [(h0, .inr (8, [.ref q1, .ref q3, .ref q5, .ref q7, .ref q9, .null, .null])), (q1, .inr (5, [.ref (f2 1), .ref (f2 3), .int 0, .int 0])), ((f2 1), .inr (4, [.ref (f2 2), .int 0])), ((f2 2), .inl (cI, 120, .inl (fun _ => 0))), ((f2 3), .inr (2, [.ref (f2 4), .int 0, .int 0])), ((f2 4), .inr (6, [.ref (f2 5)])), ((f2 5), .inl (cI, 520, .inl (fun _ => 0))), (q3, .inr (4, [.ref (f4 1), .int 0])), ((f4 1), .inl (cI, 1000, .inl (fun _ => 0))), (q5, .inr (0, [.ref (f6 1)])), ((f6 1), .inr (6, [.ref (f6 2)])), ((f6 2), .inl (cI, 1605, .inl (fun _ => 0))), (q7, .inr (1, [.ref (f8 1), .int 0, .int 0, .int 0])), ((f8 1), .inr (6, [.ref (f8 2)])), ((f8 2), .inl (cI, 19260, .inl (fun _ => 0))), (q9, .inr (3, [.ref (f10 1), .ref (f10 3), .ref (f10 5), .ref (f10 7), .ref (f10 9), .ref (f10 11), .ref (f10 13), .ref (f10 15), .ref (f10 17), .int 0, .int 0])), ((f10 1), .inr (6, [.ref (f10 2)])), ((f10 2), .inl (cI, 40, .inl (fun _ => 0))), ((f10 3), .inr (6, [.ref (f10 4)])), ((f10 4), .inl (cI, 40, .inl (fun _ => 0))), ((f10 5), .inr (6, [.ref (f10 6)])), ((f10 6), .inl (cI, 40, .inl (fun _ => 0))), ((f10 7), .inr (6, [.ref (f10 8)])), ((f10 8), .inl (cI, 240, .inl (fun _ => 0))), ((f10 9), .inr (6, [.ref (f10 10)])), ((f10 10), .inl (cI, 40, .inl (fun _ => 0))), ((f10 11), .inr (6, [.ref (f10 12)])), ((f10 12), .inl (cI, 120, .inl (fun _ => 0))), ((f10 13), .inr (6, [.ref (f10 14)])), ((f10 14), .inl (cI, 120, .inl (fun _ => 0))), ((f10 15), .inr (6, [.ref (f10 16)])), ((f10 16), .inl (cI, 120, .inl (fun _ => 0))), ((f10 17), .inr (6, [.ref (f10 18)])), ((f10 18), .inl (cI, 6, .inl (fun _ => 0))), (q11, .inr (3, [.ref (f12 1), .ref (f12 3), .ref (f12 5), .ref (f12 7), .ref (f12 9), .ref (f12 11), .ref (f12 13), .ref (f12 15), .ref (f12 17), .int 0, .int 0])), ((f12 1), .inr (6, [.ref (f12 2)])), ((f12 2), .inl (cI, 40, .inl (fun _ => 0))), ((f12 3), .inr (6, [.ref (f12 4)])), ((f12 4), .inl (cI, 40, .inl (fun _ => 0))), ((f12 5), .inr (6, [.ref (f12 6)])), ((f12 6), .inl (cI, 40, .inl (fun _ => 0))), ((f12 7), .inr (6, [.ref (f12 8)])), ((f12 8), .inl (cI, 240, .inl (fun _ => 0))), ((f12 9), .inr (6, [.ref (f12 10)])), ((f12 10), .inl (cI, 40, .inl (fun _ => 0))), ((f12 11), .inr (6, [.ref (f12 12)])), ((f12 12), .inl (cI, 120, .inl (fun _ => 0))), ((f12 13), .inr (6, [.ref (f12 14)])), ((f12 14), .inl (cI, 120, .inl (fun _ => 0))), ((f12 15), .inr (6, [.ref (f12 16)])), ((f12 16), .inl (cI, 120, .inl (fun _ => 0))), ((f12 17), .inr (6, [.ref (f12 18)])), ((f12 18), .inl (cI, 6, .inl (fun _ => 0)))] := hD
  refine W.widen (k := 52) (n := 24096) (by omega) (by omega) ?_
  refine va_putF (D := D) (ci := 8) (v := .ref q11) (ty := tyX8 5) (C := RX8) (T := TX8) (N := 7) hx hb hts am_ws8 tyX8 tyX8_ok nmX8 hown hK hP hD hS 0 rfl rfl 5 (by decide) (hts (.fieldLink RX8 46 "StatuteBook" "otherLaw" "LStatuteBook$Law;") (am_mem (i := 305) (by decide +kernel) (by decide +kernel))) (fun _ h9 => h9) rfl hin rfl (by decide +kernel) rfl rfl (Nat.le_of_ble_eq_true rfl) dc_SB_init_70 (fun H locs hP hD hS => ?_)
  have hP : va_P D am_cl [(h0, .inr (8, [.ref q1, .ref q3, .ref q5, .ref q7, .ref q9, .ref q11, .null])), (q1, .inr (5, [.ref (f2 1), .ref (f2 3), .int 0, .int 0])), ((f2 1), .inr (4, [.ref (f2 2), .int 0])), ((f2 2), .inl (cI, 120, .inl (fun _ => 0))), ((f2 3), .inr (2, [.ref (f2 4), .int 0, .int 0])), ((f2 4), .inr (6, [.ref (f2 5)])), ((f2 5), .inl (cI, 520, .inl (fun _ => 0))), (q3, .inr (4, [.ref (f4 1), .int 0])), ((f4 1), .inl (cI, 1000, .inl (fun _ => 0))), (q5, .inr (0, [.ref (f6 1)])), ((f6 1), .inr (6, [.ref (f6 2)])), ((f6 2), .inl (cI, 1605, .inl (fun _ => 0))), (q7, .inr (1, [.ref (f8 1), .int 0, .int 0, .int 0])), ((f8 1), .inr (6, [.ref (f8 2)])), ((f8 2), .inl (cI, 19260, .inl (fun _ => 0))), (q9, .inr (3, [.ref (f10 1), .ref (f10 3), .ref (f10 5), .ref (f10 7), .ref (f10 9), .ref (f10 11), .ref (f10 13), .ref (f10 15), .ref (f10 17), .int 0, .int 0])), ((f10 1), .inr (6, [.ref (f10 2)])), ((f10 2), .inl (cI, 40, .inl (fun _ => 0))), ((f10 3), .inr (6, [.ref (f10 4)])), ((f10 4), .inl (cI, 40, .inl (fun _ => 0))), ((f10 5), .inr (6, [.ref (f10 6)])), ((f10 6), .inl (cI, 40, .inl (fun _ => 0))), ((f10 7), .inr (6, [.ref (f10 8)])), ((f10 8), .inl (cI, 240, .inl (fun _ => 0))), ((f10 9), .inr (6, [.ref (f10 10)])), ((f10 10), .inl (cI, 40, .inl (fun _ => 0))), ((f10 11), .inr (6, [.ref (f10 12)])), ((f10 12), .inl (cI, 120, .inl (fun _ => 0))), ((f10 13), .inr (6, [.ref (f10 14)])), ((f10 14), .inl (cI, 120, .inl (fun _ => 0))), ((f10 15), .inr (6, [.ref (f10 16)])), ((f10 16), .inl (cI, 120, .inl (fun _ => 0))), ((f10 17), .inr (6, [.ref (f10 18)])), ((f10 18), .inl (cI, 6, .inl (fun _ => 0))), (q11, .inr (3, [.ref (f12 1), .ref (f12 3), .ref (f12 5), .ref (f12 7), .ref (f12 9), .ref (f12 11), .ref (f12 13), .ref (f12 15), .ref (f12 17), .int 0, .int 0])), ((f12 1), .inr (6, [.ref (f12 2)])), ((f12 2), .inl (cI, 40, .inl (fun _ => 0))), ((f12 3), .inr (6, [.ref (f12 4)])), ((f12 4), .inl (cI, 40, .inl (fun _ => 0))), ((f12 5), .inr (6, [.ref (f12 6)])), ((f12 6), .inl (cI, 40, .inl (fun _ => 0))), ((f12 7), .inr (6, [.ref (f12 8)])), ((f12 8), .inl (cI, 240, .inl (fun _ => 0))), ((f12 9), .inr (6, [.ref (f12 10)])), ((f12 10), .inl (cI, 40, .inl (fun _ => 0))), ((f12 11), .inr (6, [.ref (f12 12)])), ((f12 12), .inl (cI, 120, .inl (fun _ => 0))), ((f12 13), .inr (6, [.ref (f12 14)])), ((f12 14), .inl (cI, 120, .inl (fun _ => 0))), ((f12 15), .inr (6, [.ref (f12 16)])), ((f12 16), .inl (cI, 120, .inl (fun _ => 0))), ((f12 17), .inr (6, [.ref (f12 18)])), ((f12 18), .inl (cI, 6, .inl (fun _ => 0)))] H := hP
  have hD : va_D A [(h0, .inr (8, [.ref q1, .ref q3, .ref q5, .ref q7, .ref q9, .ref q11, .null])), (q1, .inr (5, [.ref (f2 1), .ref (f2 3), .int 0, .int 0])), ((f2 1), .inr (4, [.ref (f2 2), .int 0])), ((f2 2), .inl (cI, 120, .inl (fun _ => 0))), ((f2 3), .inr (2, [.ref (f2 4), .int 0, .int 0])), ((f2 4), .inr (6, [.ref (f2 5)])), ((f2 5), .inl (cI, 520, .inl (fun _ => 0))), (q3, .inr (4, [.ref (f4 1), .int 0])), ((f4 1), .inl (cI, 1000, .inl (fun _ => 0))), (q5, .inr (0, [.ref (f6 1)])), ((f6 1), .inr (6, [.ref (f6 2)])), ((f6 2), .inl (cI, 1605, .inl (fun _ => 0))), (q7, .inr (1, [.ref (f8 1), .int 0, .int 0, .int 0])), ((f8 1), .inr (6, [.ref (f8 2)])), ((f8 2), .inl (cI, 19260, .inl (fun _ => 0))), (q9, .inr (3, [.ref (f10 1), .ref (f10 3), .ref (f10 5), .ref (f10 7), .ref (f10 9), .ref (f10 11), .ref (f10 13), .ref (f10 15), .ref (f10 17), .int 0, .int 0])), ((f10 1), .inr (6, [.ref (f10 2)])), ((f10 2), .inl (cI, 40, .inl (fun _ => 0))), ((f10 3), .inr (6, [.ref (f10 4)])), ((f10 4), .inl (cI, 40, .inl (fun _ => 0))), ((f10 5), .inr (6, [.ref (f10 6)])), ((f10 6), .inl (cI, 40, .inl (fun _ => 0))), ((f10 7), .inr (6, [.ref (f10 8)])), ((f10 8), .inl (cI, 240, .inl (fun _ => 0))), ((f10 9), .inr (6, [.ref (f10 10)])), ((f10 10), .inl (cI, 40, .inl (fun _ => 0))), ((f10 11), .inr (6, [.ref (f10 12)])), ((f10 12), .inl (cI, 120, .inl (fun _ => 0))), ((f10 13), .inr (6, [.ref (f10 14)])), ((f10 14), .inl (cI, 120, .inl (fun _ => 0))), ((f10 15), .inr (6, [.ref (f10 16)])), ((f10 16), .inl (cI, 120, .inl (fun _ => 0))), ((f10 17), .inr (6, [.ref (f10 18)])), ((f10 18), .inl (cI, 6, .inl (fun _ => 0))), (q11, .inr (3, [.ref (f12 1), .ref (f12 3), .ref (f12 5), .ref (f12 7), .ref (f12 9), .ref (f12 11), .ref (f12 13), .ref (f12 15), .ref (f12 17), .int 0, .int 0])), ((f12 1), .inr (6, [.ref (f12 2)])), ((f12 2), .inl (cI, 40, .inl (fun _ => 0))), ((f12 3), .inr (6, [.ref (f12 4)])), ((f12 4), .inl (cI, 40, .inl (fun _ => 0))), ((f12 5), .inr (6, [.ref (f12 6)])), ((f12 6), .inl (cI, 40, .inl (fun _ => 0))), ((f12 7), .inr (6, [.ref (f12 8)])), ((f12 8), .inl (cI, 240, .inl (fun _ => 0))), ((f12 9), .inr (6, [.ref (f12 10)])), ((f12 10), .inl (cI, 40, .inl (fun _ => 0))), ((f12 11), .inr (6, [.ref (f12 12)])), ((f12 12), .inl (cI, 120, .inl (fun _ => 0))), ((f12 13), .inr (6, [.ref (f12 14)])), ((f12 14), .inl (cI, 120, .inl (fun _ => 0))), ((f12 15), .inr (6, [.ref (f12 16)])), ((f12 16), .inl (cI, 120, .inl (fun _ => 0))), ((f12 17), .inr (6, [.ref (f12 18)])), ((f12 18), .inl (cI, 6, .inl (fun _ => 0)))] := hD
  refine lv_aload_n hx hb dc_SB_init_73 rfl (lv_at hl 0 rfl) ?_
  refine va_new (ci := 7) (fs := [.null, .null, .int 0, .int 0]) (C := RX7) (T := TX7) (N := 4) hx hb hts am_ws7 tyX7 tyX7_ok hown (hts (.classLink RX8 49 RX7) (am_mem (i := 279) (by decide +kernel) (by decide +kernel))) (hts (.instantiable RX7 4) (am_mem (i := 280) (by decide +kernel) (by decide +kernel))) (hts (.initialized RX7) (am_mem (i := 118) (by decide +kernel) (by decide +kernel))) hK hP hD hS hA rfl (fun j hj => by match j, hj with | 0, _ => rfl | 1, _ => rfl | 2, _ => rfl | 3, _ => rfl | j + 4, hj => exact absurd hj (by omega)) (Nat.le_of_ble_eq_true rfl) (Nat.le_of_ble_eq_true rfl) dc_SB_init_74 (fun q13 H hP hD hS => ?_)
  have hP : va_P D am_cl [(h0, .inr (8, [.ref q1, .ref q3, .ref q5, .ref q7, .ref q9, .ref q11, .null])), (q1, .inr (5, [.ref (f2 1), .ref (f2 3), .int 0, .int 0])), ((f2 1), .inr (4, [.ref (f2 2), .int 0])), ((f2 2), .inl (cI, 120, .inl (fun _ => 0))), ((f2 3), .inr (2, [.ref (f2 4), .int 0, .int 0])), ((f2 4), .inr (6, [.ref (f2 5)])), ((f2 5), .inl (cI, 520, .inl (fun _ => 0))), (q3, .inr (4, [.ref (f4 1), .int 0])), ((f4 1), .inl (cI, 1000, .inl (fun _ => 0))), (q5, .inr (0, [.ref (f6 1)])), ((f6 1), .inr (6, [.ref (f6 2)])), ((f6 2), .inl (cI, 1605, .inl (fun _ => 0))), (q7, .inr (1, [.ref (f8 1), .int 0, .int 0, .int 0])), ((f8 1), .inr (6, [.ref (f8 2)])), ((f8 2), .inl (cI, 19260, .inl (fun _ => 0))), (q9, .inr (3, [.ref (f10 1), .ref (f10 3), .ref (f10 5), .ref (f10 7), .ref (f10 9), .ref (f10 11), .ref (f10 13), .ref (f10 15), .ref (f10 17), .int 0, .int 0])), ((f10 1), .inr (6, [.ref (f10 2)])), ((f10 2), .inl (cI, 40, .inl (fun _ => 0))), ((f10 3), .inr (6, [.ref (f10 4)])), ((f10 4), .inl (cI, 40, .inl (fun _ => 0))), ((f10 5), .inr (6, [.ref (f10 6)])), ((f10 6), .inl (cI, 40, .inl (fun _ => 0))), ((f10 7), .inr (6, [.ref (f10 8)])), ((f10 8), .inl (cI, 240, .inl (fun _ => 0))), ((f10 9), .inr (6, [.ref (f10 10)])), ((f10 10), .inl (cI, 40, .inl (fun _ => 0))), ((f10 11), .inr (6, [.ref (f10 12)])), ((f10 12), .inl (cI, 120, .inl (fun _ => 0))), ((f10 13), .inr (6, [.ref (f10 14)])), ((f10 14), .inl (cI, 120, .inl (fun _ => 0))), ((f10 15), .inr (6, [.ref (f10 16)])), ((f10 16), .inl (cI, 120, .inl (fun _ => 0))), ((f10 17), .inr (6, [.ref (f10 18)])), ((f10 18), .inl (cI, 6, .inl (fun _ => 0))), (q11, .inr (3, [.ref (f12 1), .ref (f12 3), .ref (f12 5), .ref (f12 7), .ref (f12 9), .ref (f12 11), .ref (f12 13), .ref (f12 15), .ref (f12 17), .int 0, .int 0])), ((f12 1), .inr (6, [.ref (f12 2)])), ((f12 2), .inl (cI, 40, .inl (fun _ => 0))), ((f12 3), .inr (6, [.ref (f12 4)])), ((f12 4), .inl (cI, 40, .inl (fun _ => 0))), ((f12 5), .inr (6, [.ref (f12 6)])), ((f12 6), .inl (cI, 40, .inl (fun _ => 0))), ((f12 7), .inr (6, [.ref (f12 8)])), ((f12 8), .inl (cI, 240, .inl (fun _ => 0))), ((f12 9), .inr (6, [.ref (f12 10)])), ((f12 10), .inl (cI, 40, .inl (fun _ => 0))), ((f12 11), .inr (6, [.ref (f12 12)])), ((f12 12), .inl (cI, 120, .inl (fun _ => 0))), ((f12 13), .inr (6, [.ref (f12 14)])), ((f12 14), .inl (cI, 120, .inl (fun _ => 0))), ((f12 15), .inr (6, [.ref (f12 16)])), ((f12 16), .inl (cI, 120, .inl (fun _ => 0))), ((f12 17), .inr (6, [.ref (f12 18)])), ((f12 18), .inl (cI, 6, .inl (fun _ => 0))), (q13, .inr (7, [.null, .null, .int 0, .int 0]))] H := hP
  have hD : va_D A [(h0, .inr (8, [.ref q1, .ref q3, .ref q5, .ref q7, .ref q9, .ref q11, .null])), (q1, .inr (5, [.ref (f2 1), .ref (f2 3), .int 0, .int 0])), ((f2 1), .inr (4, [.ref (f2 2), .int 0])), ((f2 2), .inl (cI, 120, .inl (fun _ => 0))), ((f2 3), .inr (2, [.ref (f2 4), .int 0, .int 0])), ((f2 4), .inr (6, [.ref (f2 5)])), ((f2 5), .inl (cI, 520, .inl (fun _ => 0))), (q3, .inr (4, [.ref (f4 1), .int 0])), ((f4 1), .inl (cI, 1000, .inl (fun _ => 0))), (q5, .inr (0, [.ref (f6 1)])), ((f6 1), .inr (6, [.ref (f6 2)])), ((f6 2), .inl (cI, 1605, .inl (fun _ => 0))), (q7, .inr (1, [.ref (f8 1), .int 0, .int 0, .int 0])), ((f8 1), .inr (6, [.ref (f8 2)])), ((f8 2), .inl (cI, 19260, .inl (fun _ => 0))), (q9, .inr (3, [.ref (f10 1), .ref (f10 3), .ref (f10 5), .ref (f10 7), .ref (f10 9), .ref (f10 11), .ref (f10 13), .ref (f10 15), .ref (f10 17), .int 0, .int 0])), ((f10 1), .inr (6, [.ref (f10 2)])), ((f10 2), .inl (cI, 40, .inl (fun _ => 0))), ((f10 3), .inr (6, [.ref (f10 4)])), ((f10 4), .inl (cI, 40, .inl (fun _ => 0))), ((f10 5), .inr (6, [.ref (f10 6)])), ((f10 6), .inl (cI, 40, .inl (fun _ => 0))), ((f10 7), .inr (6, [.ref (f10 8)])), ((f10 8), .inl (cI, 240, .inl (fun _ => 0))), ((f10 9), .inr (6, [.ref (f10 10)])), ((f10 10), .inl (cI, 40, .inl (fun _ => 0))), ((f10 11), .inr (6, [.ref (f10 12)])), ((f10 12), .inl (cI, 120, .inl (fun _ => 0))), ((f10 13), .inr (6, [.ref (f10 14)])), ((f10 14), .inl (cI, 120, .inl (fun _ => 0))), ((f10 15), .inr (6, [.ref (f10 16)])), ((f10 16), .inl (cI, 120, .inl (fun _ => 0))), ((f10 17), .inr (6, [.ref (f10 18)])), ((f10 18), .inl (cI, 6, .inl (fun _ => 0))), (q11, .inr (3, [.ref (f12 1), .ref (f12 3), .ref (f12 5), .ref (f12 7), .ref (f12 9), .ref (f12 11), .ref (f12 13), .ref (f12 15), .ref (f12 17), .int 0, .int 0])), ((f12 1), .inr (6, [.ref (f12 2)])), ((f12 2), .inl (cI, 40, .inl (fun _ => 0))), ((f12 3), .inr (6, [.ref (f12 4)])), ((f12 4), .inl (cI, 40, .inl (fun _ => 0))), ((f12 5), .inr (6, [.ref (f12 6)])), ((f12 6), .inl (cI, 40, .inl (fun _ => 0))), ((f12 7), .inr (6, [.ref (f12 8)])), ((f12 8), .inl (cI, 240, .inl (fun _ => 0))), ((f12 9), .inr (6, [.ref (f12 10)])), ((f12 10), .inl (cI, 40, .inl (fun _ => 0))), ((f12 11), .inr (6, [.ref (f12 12)])), ((f12 12), .inl (cI, 120, .inl (fun _ => 0))), ((f12 13), .inr (6, [.ref (f12 14)])), ((f12 14), .inl (cI, 120, .inl (fun _ => 0))), ((f12 15), .inr (6, [.ref (f12 16)])), ((f12 16), .inl (cI, 120, .inl (fun _ => 0))), ((f12 17), .inr (6, [.ref (f12 18)])), ((f12 18), .inl (cI, 6, .inl (fun _ => 0))), (q13, .inr (7, [.null, .null, .int 0, .int 0]))] := hD
  refine W.widen (k := 53) (n := 24100) (by omega) (by omega) ?_
  refine lv_dup hx hb dc_SB_init_77 rfl ?_
  have hPc := hP.sub (ws' := [(q13, .inr (7, [.null, .null, .int 0, .int 0]))]) [53] rfl
  have hDc := hD.sub (ws' := [(q13, .inr (7, [.null, .null, .int 0, .int 0]))]) [53] (by decide) rfl
  have hKc := hK.sub (tys' := [(cI, .int)]) [0] rfl
  have hFc := va_free (wc := [(q13, .inr (7, [.null, .null, .int 0, .int 0]))]) hD hS hA [53] rfl
  refine va_callv (va_runIN (As := []) (rest := [.ref q13, .ref h0]) ⟨hx, hb, hml, hown, hts⟩ (c_Wal_init l D cI q13 H.size) ⟨va_cnB (host := "StatuteBook") 0 hts (am_GoodWs wc_Wal_init) rfl rfl rfl (hNw 281 _ _ _ _ (by decide +kernel)) (hts (.initialized RX7) (am_mem (i := 118) (by decide +kernel) (by decide +kernel))) (by decide +kernel) ⟨Nat.le_of_ble_eq_true rfl, Nat.le_of_ble_eq_true rfl⟩, rfl, (hts (.instanceMethod (⟨RX7, "<init>", "()V"⟩ : MethodName)) (am_mem (i := 282) (by decide +kernel) (by decide +kernel)))⟩ ⟨fun a U g mk q => by obtain ⟨q0, q1, qP, qK, qD, qN⟩ := q; exact ⟨q0, q1, qP, va_K.moved (u := U) (U := U.calling g mk a) (Vm.Alike.refl U.vm) qK, qD, am_nsm.same (u := U) rfl qN⟩, fun U hU hW => ⟨rfl, by rw [hU], by rw [hU]; exact hPc, va_K.moved hW.alike hKc, hDc.weaken (fun _ _ _ _ => trivial), hNw.warm hW⟩⟩ rfl rfl hl.1 rfl (lv_room (Nat.le_of_ble_eq_true rfl)) dc_SB_init_78 ⟨Nat.le_of_ble_eq_true rfl, Nat.le_of_ble_eq_true rfl⟩) hS (fun q _ h => hFc q h) hFc (fun u t H1 locs ht hvm hw hB hz1 hk1 hS => ?_)
  obtain ⟨f14, rfl⟩ : ∃ z, z = u := ⟨_, rfl⟩
  obtain ⟨hP1, hK1, hD1⟩ := hB
  rw [ht] at hP1
  obtain ⟨hP, hD⟩ := va_join (wr := [(h0, .inr (8, [.ref q1, .ref q3, .ref q5, .ref q7, .ref q9, .ref q11, .null])), (q1, .inr (5, [.ref (f2 1), .ref (f2 3), .int 0, .int 0])), ((f2 1), .inr (4, [.ref (f2 2), .int 0])), ((f2 2), .inl (cI, 120, .inl (fun _ => 0))), ((f2 3), .inr (2, [.ref (f2 4), .int 0, .int 0])), ((f2 4), .inr (6, [.ref (f2 5)])), ((f2 5), .inl (cI, 520, .inl (fun _ => 0))), (q3, .inr (4, [.ref (f4 1), .int 0])), ((f4 1), .inl (cI, 1000, .inl (fun _ => 0))), (q5, .inr (0, [.ref (f6 1)])), ((f6 1), .inr (6, [.ref (f6 2)])), ((f6 2), .inl (cI, 1605, .inl (fun _ => 0))), (q7, .inr (1, [.ref (f8 1), .int 0, .int 0, .int 0])), ((f8 1), .inr (6, [.ref (f8 2)])), ((f8 2), .inl (cI, 19260, .inl (fun _ => 0))), (q9, .inr (3, [.ref (f10 1), .ref (f10 3), .ref (f10 5), .ref (f10 7), .ref (f10 9), .ref (f10 11), .ref (f10 13), .ref (f10 15), .ref (f10 17), .int 0, .int 0])), ((f10 1), .inr (6, [.ref (f10 2)])), ((f10 2), .inl (cI, 40, .inl (fun _ => 0))), ((f10 3), .inr (6, [.ref (f10 4)])), ((f10 4), .inl (cI, 40, .inl (fun _ => 0))), ((f10 5), .inr (6, [.ref (f10 6)])), ((f10 6), .inl (cI, 40, .inl (fun _ => 0))), ((f10 7), .inr (6, [.ref (f10 8)])), ((f10 8), .inl (cI, 240, .inl (fun _ => 0))), ((f10 9), .inr (6, [.ref (f10 10)])), ((f10 10), .inl (cI, 40, .inl (fun _ => 0))), ((f10 11), .inr (6, [.ref (f10 12)])), ((f10 12), .inl (cI, 120, .inl (fun _ => 0))), ((f10 13), .inr (6, [.ref (f10 14)])), ((f10 14), .inl (cI, 120, .inl (fun _ => 0))), ((f10 15), .inr (6, [.ref (f10 16)])), ((f10 16), .inl (cI, 120, .inl (fun _ => 0))), ((f10 17), .inr (6, [.ref (f10 18)])), ((f10 18), .inl (cI, 6, .inl (fun _ => 0))), (q11, .inr (3, [.ref (f12 1), .ref (f12 3), .ref (f12 5), .ref (f12 7), .ref (f12 9), .ref (f12 11), .ref (f12 13), .ref (f12 15), .ref (f12 17), .int 0, .int 0])), ((f12 1), .inr (6, [.ref (f12 2)])), ((f12 2), .inl (cI, 40, .inl (fun _ => 0))), ((f12 3), .inr (6, [.ref (f12 4)])), ((f12 4), .inl (cI, 40, .inl (fun _ => 0))), ((f12 5), .inr (6, [.ref (f12 6)])), ((f12 6), .inl (cI, 40, .inl (fun _ => 0))), ((f12 7), .inr (6, [.ref (f12 8)])), ((f12 8), .inl (cI, 240, .inl (fun _ => 0))), ((f12 9), .inr (6, [.ref (f12 10)])), ((f12 10), .inl (cI, 40, .inl (fun _ => 0))), ((f12 11), .inr (6, [.ref (f12 12)])), ((f12 12), .inl (cI, 120, .inl (fun _ => 0))), ((f12 13), .inr (6, [.ref (f12 14)])), ((f12 14), .inl (cI, 120, .inl (fun _ => 0))), ((f12 15), .inr (6, [.ref (f12 16)])), ((f12 16), .inl (cI, 120, .inl (fun _ => 0))), ((f12 17), .inr (6, [.ref (f12 18)])), ((f12 18), .inl (cI, 6, .inl (fun _ => 0)))]) (w1 := [(q13, .inr (7, [.ref (f14 1), .ref (f14 3), .int 0, .int 0])), ((f14 1), .inr (6, [.ref (f14 2)])), ((f14 2), .inl (cI, 40, .inl (fun _ => 0))), ((f14 3), .inr (6, [.ref (f14 4)])), ((f14 4), .inl (cI, 40, .inl (fun _ => 0)))]) hP hD [53] [0, 1, 2, 3, 4, 5, 6, 7, 8, 9, 10, 11, 12, 13, 14, 15, 16, 17, 18, 19, 20, 21, 22, 23, 24, 25, 26, 27, 28, 29, 30, 31, 32, 33, 34, 35, 36, 37, 38, 39, 40, 41, 42, 43, 44, 45, 46, 47, 48, 49, 50, 51, 52] rfl rfl (by decide) (by decide) hk1 hFc hP1 hD1
  generalize H1 = H at hP hS ⊢
  have hP : va_P D am_cl [(h0, .inr (8, [.ref q1, .ref q3, .ref q5, .ref q7, .ref q9, .ref q11, .null])), (q1, .inr (5, [.ref (f2 1), .ref (f2 3), .int 0, .int 0])), ((f2 1), .inr (4, [.ref (f2 2), .int 0])), ((f2 2), .inl (cI, 120, .inl (fun _ => 0))), ((f2 3), .inr (2, [.ref (f2 4), .int 0, .int 0])), ((f2 4), .inr (6, [.ref (f2 5)])), ((f2 5), .inl (cI, 520, .inl (fun _ => 0))), (q3, .inr (4, [.ref (f4 1), .int 0])), ((f4 1), .inl (cI, 1000, .inl (fun _ => 0))), (q5, .inr (0, [.ref (f6 1)])), ((f6 1), .inr (6, [.ref (f6 2)])), ((f6 2), .inl (cI, 1605, .inl (fun _ => 0))), (q7, .inr (1, [.ref (f8 1), .int 0, .int 0, .int 0])), ((f8 1), .inr (6, [.ref (f8 2)])), ((f8 2), .inl (cI, 19260, .inl (fun _ => 0))), (q9, .inr (3, [.ref (f10 1), .ref (f10 3), .ref (f10 5), .ref (f10 7), .ref (f10 9), .ref (f10 11), .ref (f10 13), .ref (f10 15), .ref (f10 17), .int 0, .int 0])), ((f10 1), .inr (6, [.ref (f10 2)])), ((f10 2), .inl (cI, 40, .inl (fun _ => 0))), ((f10 3), .inr (6, [.ref (f10 4)])), ((f10 4), .inl (cI, 40, .inl (fun _ => 0))), ((f10 5), .inr (6, [.ref (f10 6)])), ((f10 6), .inl (cI, 40, .inl (fun _ => 0))), ((f10 7), .inr (6, [.ref (f10 8)])), ((f10 8), .inl (cI, 240, .inl (fun _ => 0))), ((f10 9), .inr (6, [.ref (f10 10)])), ((f10 10), .inl (cI, 40, .inl (fun _ => 0))), ((f10 11), .inr (6, [.ref (f10 12)])), ((f10 12), .inl (cI, 120, .inl (fun _ => 0))), ((f10 13), .inr (6, [.ref (f10 14)])), ((f10 14), .inl (cI, 120, .inl (fun _ => 0))), ((f10 15), .inr (6, [.ref (f10 16)])), ((f10 16), .inl (cI, 120, .inl (fun _ => 0))), ((f10 17), .inr (6, [.ref (f10 18)])), ((f10 18), .inl (cI, 6, .inl (fun _ => 0))), (q11, .inr (3, [.ref (f12 1), .ref (f12 3), .ref (f12 5), .ref (f12 7), .ref (f12 9), .ref (f12 11), .ref (f12 13), .ref (f12 15), .ref (f12 17), .int 0, .int 0])), ((f12 1), .inr (6, [.ref (f12 2)])), ((f12 2), .inl (cI, 40, .inl (fun _ => 0))), ((f12 3), .inr (6, [.ref (f12 4)])), ((f12 4), .inl (cI, 40, .inl (fun _ => 0))), ((f12 5), .inr (6, [.ref (f12 6)])), ((f12 6), .inl (cI, 40, .inl (fun _ => 0))), ((f12 7), .inr (6, [.ref (f12 8)])), ((f12 8), .inl (cI, 240, .inl (fun _ => 0))), ((f12 9), .inr (6, [.ref (f12 10)])), ((f12 10), .inl (cI, 40, .inl (fun _ => 0))), ((f12 11), .inr (6, [.ref (f12 12)])), ((f12 12), .inl (cI, 120, .inl (fun _ => 0))), ((f12 13), .inr (6, [.ref (f12 14)])), ((f12 14), .inl (cI, 120, .inl (fun _ => 0))), ((f12 15), .inr (6, [.ref (f12 16)])), ((f12 16), .inl (cI, 120, .inl (fun _ => 0))), ((f12 17), .inr (6, [.ref (f12 18)])), ((f12 18), .inl (cI, 6, .inl (fun _ => 0))), (q13, .inr (7, [.ref (f14 1), .ref (f14 3), .int 0, .int 0])), ((f14 1), .inr (6, [.ref (f14 2)])), ((f14 2), .inl (cI, 40, .inl (fun _ => 0))), ((f14 3), .inr (6, [.ref (f14 4)])), ((f14 4), .inl (cI, 40, .inl (fun _ => 0)))] H := hP
  have hD : va_D A [(h0, .inr (8, [.ref q1, .ref q3, .ref q5, .ref q7, .ref q9, .ref q11, .null])), (q1, .inr (5, [.ref (f2 1), .ref (f2 3), .int 0, .int 0])), ((f2 1), .inr (4, [.ref (f2 2), .int 0])), ((f2 2), .inl (cI, 120, .inl (fun _ => 0))), ((f2 3), .inr (2, [.ref (f2 4), .int 0, .int 0])), ((f2 4), .inr (6, [.ref (f2 5)])), ((f2 5), .inl (cI, 520, .inl (fun _ => 0))), (q3, .inr (4, [.ref (f4 1), .int 0])), ((f4 1), .inl (cI, 1000, .inl (fun _ => 0))), (q5, .inr (0, [.ref (f6 1)])), ((f6 1), .inr (6, [.ref (f6 2)])), ((f6 2), .inl (cI, 1605, .inl (fun _ => 0))), (q7, .inr (1, [.ref (f8 1), .int 0, .int 0, .int 0])), ((f8 1), .inr (6, [.ref (f8 2)])), ((f8 2), .inl (cI, 19260, .inl (fun _ => 0))), (q9, .inr (3, [.ref (f10 1), .ref (f10 3), .ref (f10 5), .ref (f10 7), .ref (f10 9), .ref (f10 11), .ref (f10 13), .ref (f10 15), .ref (f10 17), .int 0, .int 0])), ((f10 1), .inr (6, [.ref (f10 2)])), ((f10 2), .inl (cI, 40, .inl (fun _ => 0))), ((f10 3), .inr (6, [.ref (f10 4)])), ((f10 4), .inl (cI, 40, .inl (fun _ => 0))), ((f10 5), .inr (6, [.ref (f10 6)])), ((f10 6), .inl (cI, 40, .inl (fun _ => 0))), ((f10 7), .inr (6, [.ref (f10 8)])), ((f10 8), .inl (cI, 240, .inl (fun _ => 0))), ((f10 9), .inr (6, [.ref (f10 10)])), ((f10 10), .inl (cI, 40, .inl (fun _ => 0))), ((f10 11), .inr (6, [.ref (f10 12)])), ((f10 12), .inl (cI, 120, .inl (fun _ => 0))), ((f10 13), .inr (6, [.ref (f10 14)])), ((f10 14), .inl (cI, 120, .inl (fun _ => 0))), ((f10 15), .inr (6, [.ref (f10 16)])), ((f10 16), .inl (cI, 120, .inl (fun _ => 0))), ((f10 17), .inr (6, [.ref (f10 18)])), ((f10 18), .inl (cI, 6, .inl (fun _ => 0))), (q11, .inr (3, [.ref (f12 1), .ref (f12 3), .ref (f12 5), .ref (f12 7), .ref (f12 9), .ref (f12 11), .ref (f12 13), .ref (f12 15), .ref (f12 17), .int 0, .int 0])), ((f12 1), .inr (6, [.ref (f12 2)])), ((f12 2), .inl (cI, 40, .inl (fun _ => 0))), ((f12 3), .inr (6, [.ref (f12 4)])), ((f12 4), .inl (cI, 40, .inl (fun _ => 0))), ((f12 5), .inr (6, [.ref (f12 6)])), ((f12 6), .inl (cI, 40, .inl (fun _ => 0))), ((f12 7), .inr (6, [.ref (f12 8)])), ((f12 8), .inl (cI, 240, .inl (fun _ => 0))), ((f12 9), .inr (6, [.ref (f12 10)])), ((f12 10), .inl (cI, 40, .inl (fun _ => 0))), ((f12 11), .inr (6, [.ref (f12 12)])), ((f12 12), .inl (cI, 120, .inl (fun _ => 0))), ((f12 13), .inr (6, [.ref (f12 14)])), ((f12 14), .inl (cI, 120, .inl (fun _ => 0))), ((f12 15), .inr (6, [.ref (f12 16)])), ((f12 16), .inl (cI, 120, .inl (fun _ => 0))), ((f12 17), .inr (6, [.ref (f12 18)])), ((f12 18), .inl (cI, 6, .inl (fun _ => 0))), (q13, .inr (7, [.ref (f14 1), .ref (f14 3), .int 0, .int 0])), ((f14 1), .inr (6, [.ref (f14 2)])), ((f14 2), .inl (cI, 40, .inl (fun _ => 0))), ((f14 3), .inr (6, [.ref (f14 4)])), ((f14 4), .inl (cI, 40, .inl (fun _ => 0)))] := hD
  refine W.widen (k := 57) (n := 24182) (by omega) (by omega) ?_
  refine va_putF (D := D) (ci := 8) (v := .ref q13) (ty := tyX8 6) (C := RX8) (T := TX8) (N := 7) hx hb hts am_ws8 tyX8 tyX8_ok nmX8 hown hK hP hD hS 0 rfl rfl 6 (by decide) (hts (.fieldLink RX8 52 "StatuteBook" "walk" "LStatuteBook$Walk;") (am_mem (i := 306) (by decide +kernel) (by decide +kernel))) (fun _ h9 => h9) rfl hin rfl (by decide +kernel) rfl rfl (Nat.le_of_ble_eq_true rfl) dc_SB_init_81 (fun H locs hP hD hS => ?_)
  have hP : va_P D am_cl [(h0, .inr (8, [.ref q1, .ref q3, .ref q5, .ref q7, .ref q9, .ref q11, .ref q13])), (q1, .inr (5, [.ref (f2 1), .ref (f2 3), .int 0, .int 0])), ((f2 1), .inr (4, [.ref (f2 2), .int 0])), ((f2 2), .inl (cI, 120, .inl (fun _ => 0))), ((f2 3), .inr (2, [.ref (f2 4), .int 0, .int 0])), ((f2 4), .inr (6, [.ref (f2 5)])), ((f2 5), .inl (cI, 520, .inl (fun _ => 0))), (q3, .inr (4, [.ref (f4 1), .int 0])), ((f4 1), .inl (cI, 1000, .inl (fun _ => 0))), (q5, .inr (0, [.ref (f6 1)])), ((f6 1), .inr (6, [.ref (f6 2)])), ((f6 2), .inl (cI, 1605, .inl (fun _ => 0))), (q7, .inr (1, [.ref (f8 1), .int 0, .int 0, .int 0])), ((f8 1), .inr (6, [.ref (f8 2)])), ((f8 2), .inl (cI, 19260, .inl (fun _ => 0))), (q9, .inr (3, [.ref (f10 1), .ref (f10 3), .ref (f10 5), .ref (f10 7), .ref (f10 9), .ref (f10 11), .ref (f10 13), .ref (f10 15), .ref (f10 17), .int 0, .int 0])), ((f10 1), .inr (6, [.ref (f10 2)])), ((f10 2), .inl (cI, 40, .inl (fun _ => 0))), ((f10 3), .inr (6, [.ref (f10 4)])), ((f10 4), .inl (cI, 40, .inl (fun _ => 0))), ((f10 5), .inr (6, [.ref (f10 6)])), ((f10 6), .inl (cI, 40, .inl (fun _ => 0))), ((f10 7), .inr (6, [.ref (f10 8)])), ((f10 8), .inl (cI, 240, .inl (fun _ => 0))), ((f10 9), .inr (6, [.ref (f10 10)])), ((f10 10), .inl (cI, 40, .inl (fun _ => 0))), ((f10 11), .inr (6, [.ref (f10 12)])), ((f10 12), .inl (cI, 120, .inl (fun _ => 0))), ((f10 13), .inr (6, [.ref (f10 14)])), ((f10 14), .inl (cI, 120, .inl (fun _ => 0))), ((f10 15), .inr (6, [.ref (f10 16)])), ((f10 16), .inl (cI, 120, .inl (fun _ => 0))), ((f10 17), .inr (6, [.ref (f10 18)])), ((f10 18), .inl (cI, 6, .inl (fun _ => 0))), (q11, .inr (3, [.ref (f12 1), .ref (f12 3), .ref (f12 5), .ref (f12 7), .ref (f12 9), .ref (f12 11), .ref (f12 13), .ref (f12 15), .ref (f12 17), .int 0, .int 0])), ((f12 1), .inr (6, [.ref (f12 2)])), ((f12 2), .inl (cI, 40, .inl (fun _ => 0))), ((f12 3), .inr (6, [.ref (f12 4)])), ((f12 4), .inl (cI, 40, .inl (fun _ => 0))), ((f12 5), .inr (6, [.ref (f12 6)])), ((f12 6), .inl (cI, 40, .inl (fun _ => 0))), ((f12 7), .inr (6, [.ref (f12 8)])), ((f12 8), .inl (cI, 240, .inl (fun _ => 0))), ((f12 9), .inr (6, [.ref (f12 10)])), ((f12 10), .inl (cI, 40, .inl (fun _ => 0))), ((f12 11), .inr (6, [.ref (f12 12)])), ((f12 12), .inl (cI, 120, .inl (fun _ => 0))), ((f12 13), .inr (6, [.ref (f12 14)])), ((f12 14), .inl (cI, 120, .inl (fun _ => 0))), ((f12 15), .inr (6, [.ref (f12 16)])), ((f12 16), .inl (cI, 120, .inl (fun _ => 0))), ((f12 17), .inr (6, [.ref (f12 18)])), ((f12 18), .inl (cI, 6, .inl (fun _ => 0))), (q13, .inr (7, [.ref (f14 1), .ref (f14 3), .int 0, .int 0])), ((f14 1), .inr (6, [.ref (f14 2)])), ((f14 2), .inl (cI, 40, .inl (fun _ => 0))), ((f14 3), .inr (6, [.ref (f14 4)])), ((f14 4), .inl (cI, 40, .inl (fun _ => 0)))] H := hP
  have hD : va_D A [(h0, .inr (8, [.ref q1, .ref q3, .ref q5, .ref q7, .ref q9, .ref q11, .ref q13])), (q1, .inr (5, [.ref (f2 1), .ref (f2 3), .int 0, .int 0])), ((f2 1), .inr (4, [.ref (f2 2), .int 0])), ((f2 2), .inl (cI, 120, .inl (fun _ => 0))), ((f2 3), .inr (2, [.ref (f2 4), .int 0, .int 0])), ((f2 4), .inr (6, [.ref (f2 5)])), ((f2 5), .inl (cI, 520, .inl (fun _ => 0))), (q3, .inr (4, [.ref (f4 1), .int 0])), ((f4 1), .inl (cI, 1000, .inl (fun _ => 0))), (q5, .inr (0, [.ref (f6 1)])), ((f6 1), .inr (6, [.ref (f6 2)])), ((f6 2), .inl (cI, 1605, .inl (fun _ => 0))), (q7, .inr (1, [.ref (f8 1), .int 0, .int 0, .int 0])), ((f8 1), .inr (6, [.ref (f8 2)])), ((f8 2), .inl (cI, 19260, .inl (fun _ => 0))), (q9, .inr (3, [.ref (f10 1), .ref (f10 3), .ref (f10 5), .ref (f10 7), .ref (f10 9), .ref (f10 11), .ref (f10 13), .ref (f10 15), .ref (f10 17), .int 0, .int 0])), ((f10 1), .inr (6, [.ref (f10 2)])), ((f10 2), .inl (cI, 40, .inl (fun _ => 0))), ((f10 3), .inr (6, [.ref (f10 4)])), ((f10 4), .inl (cI, 40, .inl (fun _ => 0))), ((f10 5), .inr (6, [.ref (f10 6)])), ((f10 6), .inl (cI, 40, .inl (fun _ => 0))), ((f10 7), .inr (6, [.ref (f10 8)])), ((f10 8), .inl (cI, 240, .inl (fun _ => 0))), ((f10 9), .inr (6, [.ref (f10 10)])), ((f10 10), .inl (cI, 40, .inl (fun _ => 0))), ((f10 11), .inr (6, [.ref (f10 12)])), ((f10 12), .inl (cI, 120, .inl (fun _ => 0))), ((f10 13), .inr (6, [.ref (f10 14)])), ((f10 14), .inl (cI, 120, .inl (fun _ => 0))), ((f10 15), .inr (6, [.ref (f10 16)])), ((f10 16), .inl (cI, 120, .inl (fun _ => 0))), ((f10 17), .inr (6, [.ref (f10 18)])), ((f10 18), .inl (cI, 6, .inl (fun _ => 0))), (q11, .inr (3, [.ref (f12 1), .ref (f12 3), .ref (f12 5), .ref (f12 7), .ref (f12 9), .ref (f12 11), .ref (f12 13), .ref (f12 15), .ref (f12 17), .int 0, .int 0])), ((f12 1), .inr (6, [.ref (f12 2)])), ((f12 2), .inl (cI, 40, .inl (fun _ => 0))), ((f12 3), .inr (6, [.ref (f12 4)])), ((f12 4), .inl (cI, 40, .inl (fun _ => 0))), ((f12 5), .inr (6, [.ref (f12 6)])), ((f12 6), .inl (cI, 40, .inl (fun _ => 0))), ((f12 7), .inr (6, [.ref (f12 8)])), ((f12 8), .inl (cI, 240, .inl (fun _ => 0))), ((f12 9), .inr (6, [.ref (f12 10)])), ((f12 10), .inl (cI, 40, .inl (fun _ => 0))), ((f12 11), .inr (6, [.ref (f12 12)])), ((f12 12), .inl (cI, 120, .inl (fun _ => 0))), ((f12 13), .inr (6, [.ref (f12 14)])), ((f12 14), .inl (cI, 120, .inl (fun _ => 0))), ((f12 15), .inr (6, [.ref (f12 16)])), ((f12 16), .inl (cI, 120, .inl (fun _ => 0))), ((f12 17), .inr (6, [.ref (f12 18)])), ((f12 18), .inl (cI, 6, .inl (fun _ => 0))), (q13, .inr (7, [.ref (f14 1), .ref (f14 3), .int 0, .int 0])), ((f14 1), .inr (6, [.ref (f14 2)])), ((f14 2), .inl (cI, 40, .inl (fun _ => 0))), ((f14 3), .inr (6, [.ref (f14 4)])), ((f14 4), .inl (cI, 40, .inl (fun _ => 0)))] := hD
  have hP9 := hP.sub (ws' := [(h0, .inr (8, [.ref q1, .ref q3, .ref q5, .ref q7, .ref q9, .ref q11, .ref q13])), (q1, .inr (5, [.ref (f2 1), .ref (f2 3), .int 0, .int 0])), ((f2 1), .inr (4, [.ref (f2 2), .int 0])), ((f2 2), .inl (cI, 120, .inl (fun _ => 0))), ((f2 3), .inr (2, [.ref (f2 4), .int 0, .int 0])), ((f2 4), .inr (6, [.ref (f2 5)])), ((f2 5), .inl (cI, 520, .inl (fun _ => 0))), (q3, .inr (4, [.ref (f4 1), .int 0])), ((f4 1), .inl (cI, 1000, .inl (fun _ => 0))), (q5, .inr (0, [.ref (f6 1)])), ((f6 1), .inr (6, [.ref (f6 2)])), ((f6 2), .inl (cI, 1605, .inl (fun _ => 0))), (q7, .inr (1, [.ref (f8 1), .int 0, .int 0, .int 0])), ((f8 1), .inr (6, [.ref (f8 2)])), ((f8 2), .inl (cI, 19260, .inl (fun _ => 0))), (q9, .inr (3, [.ref (f10 1), .ref (f10 3), .ref (f10 5), .ref (f10 7), .ref (f10 9), .ref (f10 11), .ref (f10 13), .ref (f10 15), .ref (f10 17), .int 0, .int 0])), ((f10 1), .inr (6, [.ref (f10 2)])), ((f10 2), .inl (cI, 40, .inl (fun _ => 0))), ((f10 3), .inr (6, [.ref (f10 4)])), ((f10 4), .inl (cI, 40, .inl (fun _ => 0))), ((f10 5), .inr (6, [.ref (f10 6)])), ((f10 6), .inl (cI, 40, .inl (fun _ => 0))), ((f10 7), .inr (6, [.ref (f10 8)])), ((f10 8), .inl (cI, 240, .inl (fun _ => 0))), ((f10 9), .inr (6, [.ref (f10 10)])), ((f10 10), .inl (cI, 40, .inl (fun _ => 0))), ((f10 11), .inr (6, [.ref (f10 12)])), ((f10 12), .inl (cI, 120, .inl (fun _ => 0))), ((f10 13), .inr (6, [.ref (f10 14)])), ((f10 14), .inl (cI, 120, .inl (fun _ => 0))), ((f10 15), .inr (6, [.ref (f10 16)])), ((f10 16), .inl (cI, 120, .inl (fun _ => 0))), ((f10 17), .inr (6, [.ref (f10 18)])), ((f10 18), .inl (cI, 6, .inl (fun _ => 0))), (q11, .inr (3, [.ref (f12 1), .ref (f12 3), .ref (f12 5), .ref (f12 7), .ref (f12 9), .ref (f12 11), .ref (f12 13), .ref (f12 15), .ref (f12 17), .int 0, .int 0])), ((f12 1), .inr (6, [.ref (f12 2)])), ((f12 2), .inl (cI, 40, .inl (fun _ => 0))), ((f12 3), .inr (6, [.ref (f12 4)])), ((f12 4), .inl (cI, 40, .inl (fun _ => 0))), ((f12 5), .inr (6, [.ref (f12 6)])), ((f12 6), .inl (cI, 40, .inl (fun _ => 0))), ((f12 7), .inr (6, [.ref (f12 8)])), ((f12 8), .inl (cI, 240, .inl (fun _ => 0))), ((f12 9), .inr (6, [.ref (f12 10)])), ((f12 10), .inl (cI, 40, .inl (fun _ => 0))), ((f12 11), .inr (6, [.ref (f12 12)])), ((f12 12), .inl (cI, 120, .inl (fun _ => 0))), ((f12 13), .inr (6, [.ref (f12 14)])), ((f12 14), .inl (cI, 120, .inl (fun _ => 0))), ((f12 15), .inr (6, [.ref (f12 16)])), ((f12 16), .inl (cI, 120, .inl (fun _ => 0))), ((f12 17), .inr (6, [.ref (f12 18)])), ((f12 18), .inl (cI, 6, .inl (fun _ => 0))), (q13, .inr (7, [.ref (f14 1), .ref (f14 3), .int 0, .int 0])), ((f14 1), .inr (6, [.ref (f14 2)])), ((f14 2), .inl (cI, 40, .inl (fun _ => 0))), ((f14 3), .inr (6, [.ref (f14 4)])), ((f14 4), .inl (cI, 40, .inl (fun _ => 0)))]) [0, 1, 2, 3, 4, 5, 6, 7, 8, 9, 10, 11, 12, 13, 14, 15, 16, 17, 18, 19, 20, 21, 22, 23, 24, 25, 26, 27, 28, 29, 30, 31, 32, 33, 34, 35, 36, 37, 38, 39, 40, 41, 42, 43, 44, 45, 46, 47, 48, 49, 50, 51, 52, 53, 54, 55, 56, 57] rfl
  exact W.vret hx hb hr (fun t ht hW => ⟨⟨(fun k => match k with | 1 => q1 | 2 => (f2 1) | 3 => (f2 2) | 4 => (f2 3) | 5 => (f2 4) | 6 => (f2 5) | 7 => q3 | 8 => (f4 1) | 9 => q5 | 10 => (f6 1) | 11 => (f6 2) | 12 => q7 | 13 => (f8 1) | 14 => (f8 2) | 15 => q9 | 16 => (f10 1) | 17 => (f10 2) | 18 => (f10 3) | 19 => (f10 4) | 20 => (f10 5) | 21 => (f10 6) | 22 => (f10 7) | 23 => (f10 8) | 24 => (f10 9) | 25 => (f10 10) | 26 => (f10 11) | 27 => (f10 12) | 28 => (f10 13) | 29 => (f10 14) | 30 => (f10 15) | 31 => (f10 16) | 32 => (f10 17) | 33 => (f10 18) | 34 => q11 | 35 => (f12 1) | 36 => (f12 2) | 37 => (f12 3) | 38 => (f12 4) | 39 => (f12 5) | 40 => (f12 6) | 41 => (f12 7) | 42 => (f12 8) | 43 => (f12 9) | 44 => (f12 10) | 45 => (f12 11) | 46 => (f12 12) | 47 => (f12 13) | 48 => (f12 14) | 49 => (f12 15) | 50 => (f12 16) | 51 => (f12 17) | 52 => (f12 18) | 53 => q13 | 54 => (f14 1) | 55 => (f14 2) | 56 => (f14 3) | 57 => (f14 4) | _ => 0), rfl, trivial, by rw [ht]; exact hP9, va_K.moved hW.alike hK, hD⟩, hS.F ht⟩) hS.2.2 dc_SB_init_84
theorem dc_Mo_init_0 : decode prog_11_method_1_code 0 = .ok (.aload_n 0, 1) := by decide +kernel
theorem dc_Mo_init_1 : decode prog_11_method_1_code 1 = .ok (.invokespecial 1, 3) := by decide +kernel
theorem dc_Mo_init_4 : decode prog_11_method_1_code 4 = .ok (.aload_n 0, 1) := by decide +kernel
theorem dc_Mo_init_5 : decode prog_11_method_1_code 5 = .ok (.sipush 1501, 3) := by decide +kernel
theorem dc_Mo_init_8 : decode prog_11_method_1_code 8 = .ok (.newarray .int, 2) := by decide +kernel
theorem dc_Mo_init_10 : decode prog_11_method_1_code 10 = .ok (.putfield 7, 3) := by decide +kernel
theorem dc_Mo_init_13 : decode prog_11_method_1_code 13 = .ok (.aload_n 0, 1) := by decide +kernel
theorem dc_Mo_init_14 : decode prog_11_method_1_code 14 = .ok (.sipush 15010, 3) := by decide +kernel
theorem dc_Mo_init_17 : decode prog_11_method_1_code 17 = .ok (.newarray .int, 2) := by decide +kernel
theorem dc_Mo_init_19 : decode prog_11_method_1_code 19 = .ok (.putfield 13, 3) := by decide +kernel
theorem dc_Mo_init_22 : decode prog_11_method_1_code 22 = .ok (.aload_n 0, 1) := by decide +kernel
theorem dc_Mo_init_23 : decode prog_11_method_1_code 23 = .ok (.sipush 3002, 3) := by decide +kernel
theorem dc_Mo_init_26 : decode prog_11_method_1_code 26 = .ok (.newarray .int, 2) := by decide +kernel
theorem dc_Mo_init_28 : decode prog_11_method_1_code 28 = .ok (.putfield 16, 3) := by decide +kernel
theorem dc_Mo_init_31 : decode prog_11_method_1_code 31 = .ok (.aload_n 0, 1) := by decide +kernel
theorem dc_Mo_init_32 : decode prog_11_method_1_code 32 = .ok (.iconst 2, 1) := by decide +kernel
theorem dc_Mo_init_33 : decode prog_11_method_1_code 33 = .ok (.newarray .int, 2) := by decide +kernel
theorem dc_Mo_init_35 : decode prog_11_method_1_code 35 = .ok (.putfield 19, 3) := by decide +kernel
theorem dc_Mo_init_38 : decode prog_11_method_1_code 38 = .ok (.aload_n 0, 1) := by decide +kernel
theorem dc_Mo_init_39 : decode prog_11_method_1_code 39 = .ok (.bipush 20, 2) := by decide +kernel
theorem dc_Mo_init_41 : decode prog_11_method_1_code 41 = .ok (.newarray .int, 2) := by decide +kernel
theorem dc_Mo_init_43 : decode prog_11_method_1_code 43 = .ok (.putfield 22, 3) := by decide +kernel
theorem dc_Mo_init_46 : decode prog_11_method_1_code 46 = .ok (.aload_n 0, 1) := by decide +kernel
theorem dc_Mo_init_47 : decode prog_11_method_1_code 47 = .ok (.bipush 40, 2) := by decide +kernel
theorem dc_Mo_init_49 : decode prog_11_method_1_code 49 = .ok (.newarray .int, 2) := by decide +kernel
theorem dc_Mo_init_51 : decode prog_11_method_1_code 51 = .ok (.putfield 25, 3) := by decide +kernel
theorem dc_Mo_init_54 : decode prog_11_method_1_code 54 = .ok (.aload_n 0, 1) := by decide +kernel
theorem dc_Mo_init_55 : decode prog_11_method_1_code 55 = .ok (.bipush 40, 2) := by decide +kernel
theorem dc_Mo_init_57 : decode prog_11_method_1_code 57 = .ok (.newarray .int, 2) := by decide +kernel
theorem dc_Mo_init_59 : decode prog_11_method_1_code 59 = .ok (.putfield 28, 3) := by decide +kernel
theorem dc_Mo_init_62 : decode prog_11_method_1_code 62 = .ok (.aload_n 0, 1) := by decide +kernel
theorem dc_Mo_init_63 : decode prog_11_method_1_code 63 = .ok (.bipush 40, 2) := by decide +kernel
theorem dc_Mo_init_65 : decode prog_11_method_1_code 65 = .ok (.newarray .int, 2) := by decide +kernel
theorem dc_Mo_init_67 : decode prog_11_method_1_code 67 = .ok (.putfield 31, 3) := by decide +kernel
theorem dc_Mo_init_70 : decode prog_11_method_1_code 70 = .ok (.aload_n 0, 1) := by decide +kernel
theorem dc_Mo_init_71 : decode prog_11_method_1_code 71 = .ok (.sipush 240, 3) := by decide +kernel
theorem dc_Mo_init_74 : decode prog_11_method_1_code 74 = .ok (.newarray .int, 2) := by decide +kernel
theorem dc_Mo_init_76 : decode prog_11_method_1_code 76 = .ok (.putfield 34, 3) := by decide +kernel
theorem dc_Mo_init_79 : decode prog_11_method_1_code 79 = .ok (.aload_n 0, 1) := by decide +kernel
theorem dc_Mo_init_80 : decode prog_11_method_1_code 80 = .ok (.bipush 40, 2) := by decide +kernel
theorem dc_Mo_init_82 : decode prog_11_method_1_code 82 = .ok (.newarray .int, 2) := by decide +kernel
theorem dc_Mo_init_84 : decode prog_11_method_1_code 84 = .ok (.putfield 37, 3) := by decide +kernel
theorem dc_Mo_init_87 : decode prog_11_method_1_code 87 = .ok (.aload_n 0, 1) := by decide +kernel
theorem dc_Mo_init_88 : decode prog_11_method_1_code 88 = .ok (.bipush 120, 2) := by decide +kernel
theorem dc_Mo_init_90 : decode prog_11_method_1_code 90 = .ok (.newarray .int, 2) := by decide +kernel
theorem dc_Mo_init_92 : decode prog_11_method_1_code 92 = .ok (.putfield 40, 3) := by decide +kernel
theorem dc_Mo_init_95 : decode prog_11_method_1_code 95 = .ok (.aload_n 0, 1) := by decide +kernel
theorem dc_Mo_init_96 : decode prog_11_method_1_code 96 = .ok (.bipush 120, 2) := by decide +kernel
theorem dc_Mo_init_98 : decode prog_11_method_1_code 98 = .ok (.newarray .int, 2) := by decide +kernel
theorem dc_Mo_init_100 : decode prog_11_method_1_code 100 = .ok (.putfield 43, 3) := by decide +kernel
theorem dc_Mo_init_103 : decode prog_11_method_1_code 103 = .ok (.aload_n 0, 1) := by decide +kernel
theorem dc_Mo_init_104 : decode prog_11_method_1_code 104 = .ok (.bipush 120, 2) := by decide +kernel
theorem dc_Mo_init_106 : decode prog_11_method_1_code 106 = .ok (.newarray .int, 2) := by decide +kernel
theorem dc_Mo_init_108 : decode prog_11_method_1_code 108 = .ok (.putfield 46, 3) := by decide +kernel
theorem dc_Mo_init_111 : decode prog_11_method_1_code 111 = .ok (.aload_n 0, 1) := by decide +kernel
theorem dc_Mo_init_112 : decode prog_11_method_1_code 112 = .ok (.bipush 6, 2) := by decide +kernel
theorem dc_Mo_init_114 : decode prog_11_method_1_code 114 = .ok (.newarray .int, 2) := by decide +kernel
theorem dc_Mo_init_116 : decode prog_11_method_1_code 116 = .ok (.putfield 49, 3) := by decide +kernel
theorem dc_Mo_init_119 : decode prog_11_method_1_code 119 = .ok (.aload_n 0, 1) := by decide +kernel
theorem dc_Mo_init_120 : decode prog_11_method_1_code 120 = .ok (.bipush 120, 2) := by decide +kernel
theorem dc_Mo_init_122 : decode prog_11_method_1_code 122 = .ok (.newarray .int, 2) := by decide +kernel
theorem dc_Mo_init_124 : decode prog_11_method_1_code 124 = .ok (.putfield 52, 3) := by decide +kernel
theorem dc_Mo_init_127 : decode prog_11_method_1_code 127 = .ok (.aload_n 0, 1) := by decide +kernel
theorem dc_Mo_init_128 : decode prog_11_method_1_code 128 = .ok (.sipush 492, 3) := by decide +kernel
theorem dc_Mo_init_131 : decode prog_11_method_1_code 131 = .ok (.newarray .int, 2) := by decide +kernel
theorem dc_Mo_init_133 : decode prog_11_method_1_code 133 = .ok (.putfield 55, 3) := by decide +kernel
theorem dc_Mo_init_136 : decode prog_11_method_1_code 136 = .ok (.aload_n 0, 1) := by decide +kernel
theorem dc_Mo_init_137 : decode prog_11_method_1_code 137 = .ok (.sipush 1000, 3) := by decide +kernel
theorem dc_Mo_init_140 : decode prog_11_method_1_code 140 = .ok (.newarray .int, 2) := by decide +kernel
theorem dc_Mo_init_142 : decode prog_11_method_1_code 142 = .ok (.putfield 58, 3) := by decide +kernel
theorem dc_Mo_init_145 : decode prog_11_method_1_code 145 = .ok (.aload_n 0, 1) := by decide +kernel
theorem dc_Mo_init_146 : decode prog_11_method_1_code 146 = .ok (.bipush 40, 2) := by decide +kernel
theorem dc_Mo_init_148 : decode prog_11_method_1_code 148 = .ok (.newarray .int, 2) := by decide +kernel
theorem dc_Mo_init_150 : decode prog_11_method_1_code 150 = .ok (.putfield 61, 3) := by decide +kernel
theorem dc_Mo_init_153 : decode prog_11_method_1_code 153 = .ok (.aload_n 0, 1) := by decide +kernel
theorem dc_Mo_init_154 : decode prog_11_method_1_code 154 = .ok (.bipush 40, 2) := by decide +kernel
theorem dc_Mo_init_156 : decode prog_11_method_1_code 156 = .ok (.newarray .int, 2) := by decide +kernel
theorem dc_Mo_init_158 : decode prog_11_method_1_code 158 = .ok (.putfield 64, 3) := by decide +kernel
theorem dc_Mo_init_161 : decode prog_11_method_1_code 161 = .ok (.aload_n 0, 1) := by decide +kernel
theorem dc_Mo_init_162 : decode prog_11_method_1_code 162 = .ok (.bipush 40, 2) := by decide +kernel
theorem dc_Mo_init_164 : decode prog_11_method_1_code 164 = .ok (.newarray .int, 2) := by decide +kernel
theorem dc_Mo_init_166 : decode prog_11_method_1_code 166 = .ok (.putfield 67, 3) := by decide +kernel
theorem dc_Mo_init_169 : decode prog_11_method_1_code 169 = .ok (.aload_n 0, 1) := by decide +kernel
theorem dc_Mo_init_170 : decode prog_11_method_1_code 170 = .ok (.sipush 240, 3) := by decide +kernel
theorem dc_Mo_init_173 : decode prog_11_method_1_code 173 = .ok (.newarray .int, 2) := by decide +kernel
theorem dc_Mo_init_175 : decode prog_11_method_1_code 175 = .ok (.putfield 70, 3) := by decide +kernel
theorem dc_Mo_init_178 : decode prog_11_method_1_code 178 = .ok (.aload_n 0, 1) := by decide +kernel
theorem dc_Mo_init_179 : decode prog_11_method_1_code 179 = .ok (.bipush 40, 2) := by decide +kernel
theorem dc_Mo_init_181 : decode prog_11_method_1_code 181 = .ok (.newarray .int, 2) := by decide +kernel
theorem dc_Mo_init_183 : decode prog_11_method_1_code 183 = .ok (.putfield 73, 3) := by decide +kernel
theorem dc_Mo_init_186 : decode prog_11_method_1_code 186 = .ok (.return_, 1) := by decide +kernel
theorem wc_Mo_init : Cond.code ⟨RX9, "<init>", "()V"⟩ prog_11_method_1_code 1 none ∈ am_tbl := am_mem (i := 1022) (by decide +kernel) (by decide +kernel)
def aw_Mo (cI : ClassId) (h0 : Nat) (f : Nat → Nat) : va_W := [(h0, .inr (9, [.ref (f 1), .ref (f 2), .int 0, .ref (f 3), .ref (f 4), .ref (f 5), .ref (f 6), .ref (f 7), .ref (f 8), .ref (f 9), .ref (f 10), .ref (f 11), .ref (f 12), .ref (f 13), .int 0, .ref (f 14), .ref (f 15), .int 0, .int 0, .int 0, .ref (f 16), .int 0, .ref (f 17), .int 0, .int 0, .ref (f 18), .ref (f 19), .ref (f 20), .ref (f 21), .ref (f 22), .long 0])), ((f 1), .inl (cI, 1501, .inl (fun _ => 0))), ((f 2), .inl (cI, 15010, .inl (fun _ => 0))), ((f 3), .inl (cI, 3002, .inl (fun _ => 0))), ((f 4), .inl (cI, 2, .inl (fun _ => 0))), ((f 5), .inl (cI, 20, .inl (fun _ => 0))), ((f 6), .inl (cI, 40, .inl (fun _ => 0))), ((f 7), .inl (cI, 40, .inl (fun _ => 0))), ((f 8), .inl (cI, 40, .inl (fun _ => 0))), ((f 9), .inl (cI, 240, .inl (fun _ => 0))), ((f 10), .inl (cI, 40, .inl (fun _ => 0))), ((f 11), .inl (cI, 120, .inl (fun _ => 0))), ((f 12), .inl (cI, 120, .inl (fun _ => 0))), ((f 13), .inl (cI, 120, .inl (fun _ => 0))), ((f 14), .inl (cI, 6, .inl (fun _ => 0))), ((f 15), .inl (cI, 120, .inl (fun _ => 0))), ((f 16), .inl (cI, 492, .inl (fun _ => 0))), ((f 17), .inl (cI, 1000, .inl (fun _ => 0))), ((f 18), .inl (cI, 40, .inl (fun _ => 0))), ((f 19), .inl (cI, 40, .inl (fun _ => 0))), ((f 20), .inl (cI, 40, .inl (fun _ => 0))), ((f 21), .inl (cI, 240, .inl (fun _ => 0))), ((f 22), .inl (cI, 40, .inl (fun _ => 0)))]
set_option maxHeartbeats 4000000 in
set_option maxRecDepth 100000 in
theorem c_Mo_init (l : Launch) (D : va_G) (cI : ClassId) (h0 : Nat) (sz : Nat) : Met l ⟨RX9, "<init>", "()V"⟩ (Cond.code ⟨RX9, "<init>", "()V"⟩ prog_11_method_1_code 1 none :: am_tbl) ({ frames := 1, cells := 22, slots := 22313, locals := 20 }) (va_Pc [.ref h0] (fun U => U.heap.size = sz ∧ va_P D am_cl [(h0, .inr (9, [.null, .null, .int 0, .null, .null, .null, .null, .null, .null, .null, .null, .null, .null, .null, .int 0, .null, .null, .int 0, .int 0, .int 0, .null, .int 0, .null, .int 0, .int 0, .null, .null, .null, .null, .null, .long 0]))] U.heap ∧ va_K D am_cl [(cI, .int)] U ∧ va_D (fun _ => True) [(h0, .inr (9, [.null, .null, .int 0, .null, .null, .null, .null, .null, .null, .null, .null, .null, .null, .null, .int 0, .null, .null, .int 0, .int 0, .int 0, .null, .int 0, .null, .int 0, .int 0, .null, .null, .null, .null, .null, .long 0]))] ∧ am_nsm U)) (va_Qv (fun _ : Nat → Nat => True) (fun f t => va_P D am_cl (aw_Mo cI h0 f) t.heap ∧ va_K D am_cl [(cI, .int)] t ∧ va_D (va_A [(h0, .inr (9, [.null, .null, .int 0, .null, .null, .null, .null, .null, .null, .null, .null, .null, .null, .null, .int 0, .null, .null, .int 0, .int 0, .int 0, .null, .int 0, .null, .int 0, .int 0, .null, .null, .null, .null, .null, .long 0]))] sz) (aw_Mo cI h0 f)) (va_A [(h0, .inr (9, [.null, .null, .int 0, .null, .null, .null, .null, .null, .null, .null, .null, .null, .null, .null, .int 0, .null, .null, .int 0, .int 0, .int 0, .null, .int 0, .null, .int 0, .int 0, .null, .null, .null, .null, .null, .long 0]))] sz)) 22 22313 (va_A [(h0, .inr (9, [.null, .null, .int 0, .null, .null, .null, .null, .null, .null, .null, .null, .null, .null, .null, .int 0, .null, .null, .int 0, .int 0, .int 0, .null, .int 0, .null, .int 0, .int 0, .null, .null, .null, .null, .null, .long 0]))] sz) := by
  refine Met.ofW (cc := prog_11_method_1_code) (maxL := 1) (ret := none) (by decide) rfl ?_
  intro p e s m args below meth c s₁ B hml hv
  obtain ⟨rfl, hsz, hP, hK, hD0, hNw⟩ := hv
  have hx := B.exec
  have hb := B.bytes
  have hr := B.returns
  have hts0 := atoms_spec (ws := (Cond.code ⟨RX9, "<init>", "()V"⟩ prog_11_method_1_code 1 none :: am_tbl)) B.pre
  have hts : ∀ w ∈ am_tbl, w.before _ s = true := fun w hw => hts0 w (List.mem_cons_of_mem _ hw)
  have hown : s.vm.findClass RX9 = some m.cls := findClass_of_methodNamed B.named
  have hlocks := B.notSynchronized
  have hin : meth.name = "<init>" := (name_of_methodNamed B.named B.method).1
  subst hsz
  have hD := hD0.self (sz := s.heap.size)
  generalize hAe : va_A [(h0, .inr (9, [.null, .null, .int 0, .null, .null, .null, .null, .null, .null, .null, .null, .null, .null, .null, .int 0, .null, .null, .int 0, .int 0, .int 0, .null, .int 0, .null, .int 0, .int 0, .null, .null, .null, .null, .null, .long 0]))] s.heap.size = A at hD ⊢
  have hA : ∀ q : Nat, s.heap.size ≤ q → A q := fun q h => by rw [← hAe]; exact Or.inr h
  have hS : va_S A s.heap s.heap [] := va_S.rf
  have hl := lv_entry ([.ref h0]) (n := 1) (Nat.le_of_ble_eq_true rfl)
  rw [lg_entry_eq]
  generalize (lg_sl ([.ref h0]) ++ List.replicate (1 - (lg_sl ([.ref h0])).length) Slot.unset).toArray = ls at hl ⊢
  have hl : lv_has ls 1 [(0, .ref h0)] := hl
  refine lv_aload_n hx hb dc_Mo_init_0 rfl (lv_at hl 0 rfl) ?_
  refine W.objInit hx hb hown (hts (.methodLink RX9 1 objectInit) (am_mem (i := 1023) (by decide +kernel) (by decide +kernel))) (hts _ am_wob1) (hts _ am_wob2) rfl (by rw [hml]; exact hl.1) rfl dc_Mo_init_1 (Nat.le_of_ble_eq_true rfl) (Nat.le_of_ble_eq_true rfl) ?_
  refine W.eq (g2 := F0 m 4 ls []) rfl ?_
  refine lv_aload_n hx hb dc_Mo_init_4 rfl (lv_at hl 0 rfl) ?_
  refine lv_sipush (v := 1501) hx hb dc_Mo_init_5 (by decide) ?_
  refine am_newa (N := 1501) hx hb (hts _ am_warr) hK hP hD hS hA (by decide) rfl (Nat.le_of_ble_eq_true rfl) (Nat.le_of_ble_eq_true rfl) (Nat.le_of_ble_eq_true rfl) dc_Mo_init_8 (fun q1 H hP hD hS => ?_)
  have hP : va_P D am_cl [(h0, .inr (9, [.null, .null, .int 0, .null, .null, .null, .null, .null, .null, .null, .null, .null, .null, .null, .int 0, .null, .null, .int 0, .int 0, .int 0, .null, .int 0, .null, .int 0, .int 0, .null, .null, .null, .null, .null, .long 0])), (q1, .inl (cI, 1501, .inl (fun _ => 0)))] H := hP
  have hD : va_D A [(h0, .inr (9, [.null, .null, .int 0, .null, .null, .null, .null, .null, .null, .null, .null, .null, .null, .null, .int 0, .null, .null, .int 0, .int 0, .int 0, .null, .int 0, .null, .int 0, .int 0, .null, .null, .null, .null, .null, .long 0])), (q1, .inl (cI, 1501, .inl (fun _ => 0)))] := hD
  refine W.widen (k := 1) (n := 1501) (by omega) (by omega) ?_
  refine va_putF (D := D) (ci := 9) (v := .ref q1) (ty := tyX9 0) (C := RX9) (T := TX9) (N := 31) hx hb hts am_ws9 tyX9 tyX9_ok nmX9 hown hK hP hD hS 0 rfl rfl 0 (by decide) (hts (.fieldLink RX9 7 "StatuteBookModel" "m" "[I") (am_mem (i := 1024) (by decide +kernel) (by decide +kernel))) (fun _ h9 => h9) rfl hin rfl (by decide +kernel) rfl rfl (Nat.le_of_ble_eq_true rfl) dc_Mo_init_10 (fun H locs hP hD hS => ?_)
  have hP : va_P D am_cl [(h0, .inr (9, [.ref q1, .null, .int 0, .null, .null, .null, .null, .null, .null, .null, .null, .null, .null, .null, .int 0, .null, .null, .int 0, .int 0, .int 0, .null, .int 0, .null, .int 0, .int 0, .null, .null, .null, .null, .null, .long 0])), (q1, .inl (cI, 1501, .inl (fun _ => 0)))] H := hP
  have hD : va_D A [(h0, .inr (9, [.ref q1, .null, .int 0, .null, .null, .null, .null, .null, .null, .null, .null, .null, .null, .null, .int 0, .null, .null, .int 0, .int 0, .int 0, .null, .int 0, .null, .int 0, .int 0, .null, .null, .null, .null, .null, .long 0])), (q1, .inl (cI, 1501, .inl (fun _ => 0)))] := hD
  refine lv_aload_n hx hb dc_Mo_init_13 rfl (lv_at hl 0 rfl) ?_
  refine lv_sipush (v := 15010) hx hb dc_Mo_init_14 (by decide) ?_
  refine am_newa (N := 15010) hx hb (hts _ am_warr) hK hP hD hS hA (by decide) rfl (Nat.le_of_ble_eq_true rfl) (Nat.le_of_ble_eq_true rfl) (Nat.le_of_ble_eq_true rfl) dc_Mo_init_17 (fun q2 H hP hD hS => ?_)
  have hP : va_P D am_cl [(h0, .inr (9, [.ref q1, .null, .int 0, .null, .null, .null, .null, .null, .null, .null, .null, .null, .null, .null, .int 0, .null, .null, .int 0, .int 0, .int 0, .null, .int 0, .null, .int 0, .int 0, .null, .null, .null, .null, .null, .long 0])), (q1, .inl (cI, 1501, .inl (fun _ => 0))), (q2, .inl (cI, 15010, .inl (fun _ => 0)))] H := hP
  have hD : va_D A [(h0, .inr (9, [.ref q1, .null, .int 0, .null, .null, .null, .null, .null, .null, .null, .null, .null, .null, .null, .int 0, .null, .null, .int 0, .int 0, .int 0, .null, .int 0, .null, .int 0, .int 0, .null, .null, .null, .null, .null, .long 0])), (q1, .inl (cI, 1501, .inl (fun _ => 0))), (q2, .inl (cI, 15010, .inl (fun _ => 0)))] := hD
  refine W.widen (k := 2) (n := 16511) (by omega) (by omega) ?_
  refine va_putF (D := D) (ci := 9) (v := .ref q2) (ty := tyX9 1) (C := RX9) (T := TX9) (N := 31) hx hb hts am_ws9 tyX9 tyX9_ok nmX9 hown hK hP hD hS 0 rfl rfl 1 (by decide) (hts (.fieldLink RX9 13 "StatuteBookModel" "past" "[I") (am_mem (i := 1025) (by decide +kernel) (by decide +kernel))) (fun _ h9 => h9) rfl hin rfl (by decide +kernel) rfl rfl (Nat.le_of_ble_eq_true rfl) dc_Mo_init_19 (fun H locs hP hD hS => ?_)
  have hP : va_P D am_cl [(h0, .inr (9, [.ref q1, .ref q2, .int 0, .null, .null, .null, .null, .null, .null, .null, .null, .null, .null, .null, .int 0, .null, .null, .int 0, .int 0, .int 0, .null, .int 0, .null, .int 0, .int 0, .null, .null, .null, .null, .null, .long 0])), (q1, .inl (cI, 1501, .inl (fun _ => 0))), (q2, .inl (cI, 15010, .inl (fun _ => 0)))] H := hP
  have hD : va_D A [(h0, .inr (9, [.ref q1, .ref q2, .int 0, .null, .null, .null, .null, .null, .null, .null, .null, .null, .null, .null, .int 0, .null, .null, .int 0, .int 0, .int 0, .null, .int 0, .null, .int 0, .int 0, .null, .null, .null, .null, .null, .long 0])), (q1, .inl (cI, 1501, .inl (fun _ => 0))), (q2, .inl (cI, 15010, .inl (fun _ => 0)))] := hD
  refine lv_aload_n hx hb dc_Mo_init_22 rfl (lv_at hl 0 rfl) ?_
  refine lv_sipush (v := 3002) hx hb dc_Mo_init_23 (by decide) ?_
  refine am_newa (N := 3002) hx hb (hts _ am_warr) hK hP hD hS hA (by decide) rfl (Nat.le_of_ble_eq_true rfl) (Nat.le_of_ble_eq_true rfl) (Nat.le_of_ble_eq_true rfl) dc_Mo_init_26 (fun q3 H hP hD hS => ?_)
  have hP : va_P D am_cl [(h0, .inr (9, [.ref q1, .ref q2, .int 0, .null, .null, .null, .null, .null, .null, .null, .null, .null, .null, .null, .int 0, .null, .null, .int 0, .int 0, .int 0, .null, .int 0, .null, .int 0, .int 0, .null, .null, .null, .null, .null, .long 0])), (q1, .inl (cI, 1501, .inl (fun _ => 0))), (q2, .inl (cI, 15010, .inl (fun _ => 0))), (q3, .inl (cI, 3002, .inl (fun _ => 0)))] H := hP
  have hD : va_D A [(h0, .inr (9, [.ref q1, .ref q2, .int 0, .null, .null, .null, .null, .null, .null, .null, .null, .null, .null, .null, .int 0, .null, .null, .int 0, .int 0, .int 0, .null, .int 0, .null, .int 0, .int 0, .null, .null, .null, .null, .null, .long 0])), (q1, .inl (cI, 1501, .inl (fun _ => 0))), (q2, .inl (cI, 15010, .inl (fun _ => 0))), (q3, .inl (cI, 3002, .inl (fun _ => 0)))] := hD
  refine W.widen (k := 3) (n := 19513) (by omega) (by omega) ?_
  refine va_putF (D := D) (ci := 9) (v := .ref q3) (ty := tyX9 3) (C := RX9) (T := TX9) (N := 31) hx hb hts am_ws9 tyX9 tyX9_ok nmX9 hown hK hP hD hS 0 rfl rfl 3 (by decide) (hts (.fieldLink RX9 16 "StatuteBookModel" "saved" "[I") (am_mem (i := 1027) (by decide +kernel) (by decide +kernel))) (fun _ h9 => h9) rfl hin rfl (by decide +kernel) rfl rfl (Nat.le_of_ble_eq_true rfl) dc_Mo_init_28 (fun H locs hP hD hS => ?_)
  have hP : va_P D am_cl [(h0, .inr (9, [.ref q1, .ref q2, .int 0, .ref q3, .null, .null, .null, .null, .null, .null, .null, .null, .null, .null, .int 0, .null, .null, .int 0, .int 0, .int 0, .null, .int 0, .null, .int 0, .int 0, .null, .null, .null, .null, .null, .long 0])), (q1, .inl (cI, 1501, .inl (fun _ => 0))), (q2, .inl (cI, 15010, .inl (fun _ => 0))), (q3, .inl (cI, 3002, .inl (fun _ => 0)))] H := hP
  have hD : va_D A [(h0, .inr (9, [.ref q1, .ref q2, .int 0, .ref q3, .null, .null, .null, .null, .null, .null, .null, .null, .null, .null, .int 0, .null, .null, .int 0, .int 0, .int 0, .null, .int 0, .null, .int 0, .int 0, .null, .null, .null, .null, .null, .long 0])), (q1, .inl (cI, 1501, .inl (fun _ => 0))), (q2, .inl (cI, 15010, .inl (fun _ => 0))), (q3, .inl (cI, 3002, .inl (fun _ => 0)))] := hD
  refine lv_aload_n hx hb dc_Mo_init_31 rfl (lv_at hl 0 rfl) ?_
  refine lv_iconst (v := 2) hx hb dc_Mo_init_32 (by decide) ?_
  refine am_newa (N := 2) hx hb (hts _ am_warr) hK hP hD hS hA (by decide) rfl (Nat.le_of_ble_eq_true rfl) (Nat.le_of_ble_eq_true rfl) (Nat.le_of_ble_eq_true rfl) dc_Mo_init_33 (fun q4 H hP hD hS => ?_)
  have hP : va_P D am_cl [(h0, .inr (9, [.ref q1, .ref q2, .int 0, .ref q3, .null, .null, .null, .null, .null, .null, .null, .null, .null, .null, .int 0, .null, .null, .int 0, .int 0, .int 0, .null, .int 0, .null, .int 0, .int 0, .null, .null, .null, .null, .null, .long 0])), (q1, .inl (cI, 1501, .inl (fun _ => 0))), (q2, .inl (cI, 15010, .inl (fun _ => 0))), (q3, .inl (cI, 3002, .inl (fun _ => 0))), (q4, .inl (cI, 2, .inl (fun _ => 0)))] H := hP
  have hD : va_D A [(h0, .inr (9, [.ref q1, .ref q2, .int 0, .ref q3, .null, .null, .null, .null, .null, .null, .null, .null, .null, .null, .int 0, .null, .null, .int 0, .int 0, .int 0, .null, .int 0, .null, .int 0, .int 0, .null, .null, .null, .null, .null, .long 0])), (q1, .inl (cI, 1501, .inl (fun _ => 0))), (q2, .inl (cI, 15010, .inl (fun _ => 0))), (q3, .inl (cI, 3002, .inl (fun _ => 0))), (q4, .inl (cI, 2, .inl (fun _ => 0)))] := hD
  refine W.widen (k := 4) (n := 19515) (by omega) (by omega) ?_
  refine va_putF (D := D) (ci := 9) (v := .ref q4) (ty := tyX9 4) (C := RX9) (T := TX9) (N := 31) hx hb hts am_ws9 tyX9 tyX9_ok nmX9 hown hK hP hD hS 0 rfl rfl 4 (by decide) (hts (.fieldLink RX9 19 "StatuteBookModel" "isSaved" "[I") (am_mem (i := 1028) (by decide +kernel) (by decide +kernel))) (fun _ h9 => h9) rfl hin rfl (by decide +kernel) rfl rfl (Nat.le_of_ble_eq_true rfl) dc_Mo_init_35 (fun H locs hP hD hS => ?_)
  have hP : va_P D am_cl [(h0, .inr (9, [.ref q1, .ref q2, .int 0, .ref q3, .ref q4, .null, .null, .null, .null, .null, .null, .null, .null, .null, .int 0, .null, .null, .int 0, .int 0, .int 0, .null, .int 0, .null, .int 0, .int 0, .null, .null, .null, .null, .null, .long 0])), (q1, .inl (cI, 1501, .inl (fun _ => 0))), (q2, .inl (cI, 15010, .inl (fun _ => 0))), (q3, .inl (cI, 3002, .inl (fun _ => 0))), (q4, .inl (cI, 2, .inl (fun _ => 0)))] H := hP
  have hD : va_D A [(h0, .inr (9, [.ref q1, .ref q2, .int 0, .ref q3, .ref q4, .null, .null, .null, .null, .null, .null, .null, .null, .null, .int 0, .null, .null, .int 0, .int 0, .int 0, .null, .int 0, .null, .int 0, .int 0, .null, .null, .null, .null, .null, .long 0])), (q1, .inl (cI, 1501, .inl (fun _ => 0))), (q2, .inl (cI, 15010, .inl (fun _ => 0))), (q3, .inl (cI, 3002, .inl (fun _ => 0))), (q4, .inl (cI, 2, .inl (fun _ => 0)))] := hD
  refine lv_aload_n hx hb dc_Mo_init_38 rfl (lv_at hl 0 rfl) ?_
  refine lv_bipush (v := 20) hx hb dc_Mo_init_39 (by decide) ?_
  refine am_newa (N := 20) hx hb (hts _ am_warr) hK hP hD hS hA (by decide) rfl (Nat.le_of_ble_eq_true rfl) (Nat.le_of_ble_eq_true rfl) (Nat.le_of_ble_eq_true rfl) dc_Mo_init_41 (fun q5 H hP hD hS => ?_)
  have hP : va_P D am_cl [(h0, .inr (9, [.ref q1, .ref q2, .int 0, .ref q3, .ref q4, .null, .null, .null, .null, .null, .null, .null, .null, .null, .int 0, .null, .null, .int 0, .int 0, .int 0, .null, .int 0, .null, .int 0, .int 0, .null, .null, .null, .null, .null, .long 0])), (q1, .inl (cI, 1501, .inl (fun _ => 0))), (q2, .inl (cI, 15010, .inl (fun _ => 0))), (q3, .inl (cI, 3002, .inl (fun _ => 0))), (q4, .inl (cI, 2, .inl (fun _ => 0))), (q5, .inl (cI, 20, .inl (fun _ => 0)))] H := hP
  have hD : va_D A [(h0, .inr (9, [.ref q1, .ref q2, .int 0, .ref q3, .ref q4, .null, .null, .null, .null, .null, .null, .null, .null, .null, .int 0, .null, .null, .int 0, .int 0, .int 0, .null, .int 0, .null, .int 0, .int 0, .null, .null, .null, .null, .null, .long 0])), (q1, .inl (cI, 1501, .inl (fun _ => 0))), (q2, .inl (cI, 15010, .inl (fun _ => 0))), (q3, .inl (cI, 3002, .inl (fun _ => 0))), (q4, .inl (cI, 2, .inl (fun _ => 0))), (q5, .inl (cI, 20, .inl (fun _ => 0)))] := hD
  refine W.widen (k := 5) (n := 19535) (by omega) (by omega) ?_
  refine va_putF (D := D) (ci := 9) (v := .ref q5) (ty := tyX9 5) (C := RX9) (T := TX9) (N := 31) hx hb hts am_ws9 tyX9 tyX9_ok nmX9 hown hK hP hD hS 0 rfl rfl 5 (by decide) (hts (.fieldLink RX9 22 "StatuteBookModel" "off" "[I") (am_mem (i := 1029) (by decide +kernel) (by decide +kernel))) (fun _ h9 => h9) rfl hin rfl (by decide +kernel) rfl rfl (Nat.le_of_ble_eq_true rfl) dc_Mo_init_43 (fun H locs hP hD hS => ?_)
  have hP : va_P D am_cl [(h0, .inr (9, [.ref q1, .ref q2, .int 0, .ref q3, .ref q4, .ref q5, .null, .null, .null, .null, .null, .null, .null, .null, .int 0, .null, .null, .int 0, .int 0, .int 0, .null, .int 0, .null, .int 0, .int 0, .null, .null, .null, .null, .null, .long 0])), (q1, .inl (cI, 1501, .inl (fun _ => 0))), (q2, .inl (cI, 15010, .inl (fun _ => 0))), (q3, .inl (cI, 3002, .inl (fun _ => 0))), (q4, .inl (cI, 2, .inl (fun _ => 0))), (q5, .inl (cI, 20, .inl (fun _ => 0)))] H := hP
  have hD : va_D A [(h0, .inr (9, [.ref q1, .ref q2, .int 0, .ref q3, .ref q4, .ref q5, .null, .null, .null, .null, .null, .null, .null, .null, .int 0, .null, .null, .int 0, .int 0, .int 0, .null, .int 0, .null, .int 0, .int 0, .null, .null, .null, .null, .null, .long 0])), (q1, .inl (cI, 1501, .inl (fun _ => 0))), (q2, .inl (cI, 15010, .inl (fun _ => 0))), (q3, .inl (cI, 3002, .inl (fun _ => 0))), (q4, .inl (cI, 2, .inl (fun _ => 0))), (q5, .inl (cI, 20, .inl (fun _ => 0)))] := hD
  refine lv_aload_n hx hb dc_Mo_init_46 rfl (lv_at hl 0 rfl) ?_
  refine lv_bipush (v := 40) hx hb dc_Mo_init_47 (by decide) ?_
  refine am_newa (N := 40) hx hb (hts _ am_warr) hK hP hD hS hA (by decide) rfl (Nat.le_of_ble_eq_true rfl) (Nat.le_of_ble_eq_true rfl) (Nat.le_of_ble_eq_true rfl) dc_Mo_init_49 (fun q6 H hP hD hS => ?_)
  have hP : va_P D am_cl [(h0, .inr (9, [.ref q1, .ref q2, .int 0, .ref q3, .ref q4, .ref q5, .null, .null, .null, .null, .null, .null, .null, .null, .int 0, .null, .null, .int 0, .int 0, .int 0, .null, .int 0, .null, .int 0, .int 0, .null, .null, .null, .null, .null, .long 0])), (q1, .inl (cI, 1501, .inl (fun _ => 0))), (q2, .inl (cI, 15010, .inl (fun _ => 0))), (q3, .inl (cI, 3002, .inl (fun _ => 0))), (q4, .inl (cI, 2, .inl (fun _ => 0))), (q5, .inl (cI, 20, .inl (fun _ => 0))), (q6, .inl (cI, 40, .inl (fun _ => 0)))] H := hP
  have hD : va_D A [(h0, .inr (9, [.ref q1, .ref q2, .int 0, .ref q3, .ref q4, .ref q5, .null, .null, .null, .null, .null, .null, .null, .null, .int 0, .null, .null, .int 0, .int 0, .int 0, .null, .int 0, .null, .int 0, .int 0, .null, .null, .null, .null, .null, .long 0])), (q1, .inl (cI, 1501, .inl (fun _ => 0))), (q2, .inl (cI, 15010, .inl (fun _ => 0))), (q3, .inl (cI, 3002, .inl (fun _ => 0))), (q4, .inl (cI, 2, .inl (fun _ => 0))), (q5, .inl (cI, 20, .inl (fun _ => 0))), (q6, .inl (cI, 40, .inl (fun _ => 0)))] := hD
  refine W.widen (k := 6) (n := 19575) (by omega) (by omega) ?_
  refine va_putF (D := D) (ci := 9) (v := .ref q6) (ty := tyX9 6) (C := RX9) (T := TX9) (N := 31) hx hb hts am_ws9 tyX9 tyX9_ok nmX9 hown hK hP hD hS 0 rfl rfl 6 (by decide) (hts (.fieldLink RX9 25 "StatuteBookModel" "force" "[I") (am_mem (i := 1030) (by decide +kernel) (by decide +kernel))) (fun _ h9 => h9) rfl hin rfl (by decide +kernel) rfl rfl (Nat.le_of_ble_eq_true rfl) dc_Mo_init_51 (fun H locs hP hD hS => ?_)
  have hP : va_P D am_cl [(h0, .inr (9, [.ref q1, .ref q2, .int 0, .ref q3, .ref q4, .ref q5, .ref q6, .null, .null, .null, .null, .null, .null, .null, .int 0, .null, .null, .int 0, .int 0, .int 0, .null, .int 0, .null, .int 0, .int 0, .null, .null, .null, .null, .null, .long 0])), (q1, .inl (cI, 1501, .inl (fun _ => 0))), (q2, .inl (cI, 15010, .inl (fun _ => 0))), (q3, .inl (cI, 3002, .inl (fun _ => 0))), (q4, .inl (cI, 2, .inl (fun _ => 0))), (q5, .inl (cI, 20, .inl (fun _ => 0))), (q6, .inl (cI, 40, .inl (fun _ => 0)))] H := hP
  have hD : va_D A [(h0, .inr (9, [.ref q1, .ref q2, .int 0, .ref q3, .ref q4, .ref q5, .ref q6, .null, .null, .null, .null, .null, .null, .null, .int 0, .null, .null, .int 0, .int 0, .int 0, .null, .int 0, .null, .int 0, .int 0, .null, .null, .null, .null, .null, .long 0])), (q1, .inl (cI, 1501, .inl (fun _ => 0))), (q2, .inl (cI, 15010, .inl (fun _ => 0))), (q3, .inl (cI, 3002, .inl (fun _ => 0))), (q4, .inl (cI, 2, .inl (fun _ => 0))), (q5, .inl (cI, 20, .inl (fun _ => 0))), (q6, .inl (cI, 40, .inl (fun _ => 0)))] := hD
  refine lv_aload_n hx hb dc_Mo_init_54 rfl (lv_at hl 0 rfl) ?_
  refine lv_bipush (v := 40) hx hb dc_Mo_init_55 (by decide) ?_
  refine am_newa (N := 40) hx hb (hts _ am_warr) hK hP hD hS hA (by decide) rfl (Nat.le_of_ble_eq_true rfl) (Nat.le_of_ble_eq_true rfl) (Nat.le_of_ble_eq_true rfl) dc_Mo_init_57 (fun q7 H hP hD hS => ?_)
  have hP : va_P D am_cl [(h0, .inr (9, [.ref q1, .ref q2, .int 0, .ref q3, .ref q4, .ref q5, .ref q6, .null, .null, .null, .null, .null, .null, .null, .int 0, .null, .null, .int 0, .int 0, .int 0, .null, .int 0, .null, .int 0, .int 0, .null, .null, .null, .null, .null, .long 0])), (q1, .inl (cI, 1501, .inl (fun _ => 0))), (q2, .inl (cI, 15010, .inl (fun _ => 0))), (q3, .inl (cI, 3002, .inl (fun _ => 0))), (q4, .inl (cI, 2, .inl (fun _ => 0))), (q5, .inl (cI, 20, .inl (fun _ => 0))), (q6, .inl (cI, 40, .inl (fun _ => 0))), (q7, .inl (cI, 40, .inl (fun _ => 0)))] H := hP
  have hD : va_D A [(h0, .inr (9, [.ref q1, .ref q2, .int 0, .ref q3, .ref q4, .ref q5, .ref q6, .null, .null, .null, .null, .null, .null, .null, .int 0, .null, .null, .int 0, .int 0, .int 0, .null, .int 0, .null, .int 0, .int 0, .null, .null, .null, .null, .null, .long 0])), (q1, .inl (cI, 1501, .inl (fun _ => 0))), (q2, .inl (cI, 15010, .inl (fun _ => 0))), (q3, .inl (cI, 3002, .inl (fun _ => 0))), (q4, .inl (cI, 2, .inl (fun _ => 0))), (q5, .inl (cI, 20, .inl (fun _ => 0))), (q6, .inl (cI, 40, .inl (fun _ => 0))), (q7, .inl (cI, 40, .inl (fun _ => 0)))] := hD
  refine W.widen (k := 7) (n := 19615) (by omega) (by omega) ?_
  refine va_putF (D := D) (ci := 9) (v := .ref q7) (ty := tyX9 7) (C := RX9) (T := TX9) (N := 31) hx hb hts am_ws9 tyX9 tyX9_ok nmX9 hown hK hP hD hS 0 rfl rfl 7 (by decide) (hts (.fieldLink RX9 28 "StatuteBookModel" "code" "[I") (am_mem (i := 1031) (by decide +kernel) (by decide +kernel))) (fun _ h9 => h9) rfl hin rfl (by decide +kernel) rfl rfl (Nat.le_of_ble_eq_true rfl) dc_Mo_init_59 (fun H locs hP hD hS => ?_)
  have hP : va_P D am_cl [(h0, .inr (9, [.ref q1, .ref q2, .int 0, .ref q3, .ref q4, .ref q5, .ref q6, .ref q7, .null, .null, .null, .null, .null, .null, .int 0, .null, .null, .int 0, .int 0, .int 0, .null, .int 0, .null, .int 0, .int 0, .null, .null, .null, .null, .null, .long 0])), (q1, .inl (cI, 1501, .inl (fun _ => 0))), (q2, .inl (cI, 15010, .inl (fun _ => 0))), (q3, .inl (cI, 3002, .inl (fun _ => 0))), (q4, .inl (cI, 2, .inl (fun _ => 0))), (q5, .inl (cI, 20, .inl (fun _ => 0))), (q6, .inl (cI, 40, .inl (fun _ => 0))), (q7, .inl (cI, 40, .inl (fun _ => 0)))] H := hP
  have hD : va_D A [(h0, .inr (9, [.ref q1, .ref q2, .int 0, .ref q3, .ref q4, .ref q5, .ref q6, .ref q7, .null, .null, .null, .null, .null, .null, .int 0, .null, .null, .int 0, .int 0, .int 0, .null, .int 0, .null, .int 0, .int 0, .null, .null, .null, .null, .null, .long 0])), (q1, .inl (cI, 1501, .inl (fun _ => 0))), (q2, .inl (cI, 15010, .inl (fun _ => 0))), (q3, .inl (cI, 3002, .inl (fun _ => 0))), (q4, .inl (cI, 2, .inl (fun _ => 0))), (q5, .inl (cI, 20, .inl (fun _ => 0))), (q6, .inl (cI, 40, .inl (fun _ => 0))), (q7, .inl (cI, 40, .inl (fun _ => 0)))] := hD
  refine lv_aload_n hx hb dc_Mo_init_62 rfl (lv_at hl 0 rfl) ?_
  refine lv_bipush (v := 40) hx hb dc_Mo_init_63 (by decide) ?_
  refine am_newa (N := 40) hx hb (hts _ am_warr) hK hP hD hS hA (by decide) rfl (Nat.le_of_ble_eq_true rfl) (Nat.le_of_ble_eq_true rfl) (Nat.le_of_ble_eq_true rfl) dc_Mo_init_65 (fun q8 H hP hD hS => ?_)
  have hP : va_P D am_cl [(h0, .inr (9, [.ref q1, .ref q2, .int 0, .ref q3, .ref q4, .ref q5, .ref q6, .ref q7, .null, .null, .null, .null, .null, .null, .int 0, .null, .null, .int 0, .int 0, .int 0, .null, .int 0, .null, .int 0, .int 0, .null, .null, .null, .null, .null, .long 0])), (q1, .inl (cI, 1501, .inl (fun _ => 0))), (q2, .inl (cI, 15010, .inl (fun _ => 0))), (q3, .inl (cI, 3002, .inl (fun _ => 0))), (q4, .inl (cI, 2, .inl (fun _ => 0))), (q5, .inl (cI, 20, .inl (fun _ => 0))), (q6, .inl (cI, 40, .inl (fun _ => 0))), (q7, .inl (cI, 40, .inl (fun _ => 0))), (q8, .inl (cI, 40, .inl (fun _ => 0)))] H := hP
  have hD : va_D A [(h0, .inr (9, [.ref q1, .ref q2, .int 0, .ref q3, .ref q4, .ref q5, .ref q6, .ref q7, .null, .null, .null, .null, .null, .null, .int 0, .null, .null, .int 0, .int 0, .int 0, .null, .int 0, .null, .int 0, .int 0, .null, .null, .null, .null, .null, .long 0])), (q1, .inl (cI, 1501, .inl (fun _ => 0))), (q2, .inl (cI, 15010, .inl (fun _ => 0))), (q3, .inl (cI, 3002, .inl (fun _ => 0))), (q4, .inl (cI, 2, .inl (fun _ => 0))), (q5, .inl (cI, 20, .inl (fun _ => 0))), (q6, .inl (cI, 40, .inl (fun _ => 0))), (q7, .inl (cI, 40, .inl (fun _ => 0))), (q8, .inl (cI, 40, .inl (fun _ => 0)))] := hD
  refine W.widen (k := 8) (n := 19655) (by omega) (by omega) ?_
  refine va_putF (D := D) (ci := 9) (v := .ref q8) (ty := tyX9 8) (C := RX9) (T := TX9) (N := 31) hx hb hts am_ws9 tyX9 tyX9_ok nmX9 hown hK hP hD hS 0 rfl rfl 8 (by decide) (hts (.fieldLink RX9 31 "StatuteBookModel" "size" "[I") (am_mem (i := 1032) (by decide +kernel) (by decide +kernel))) (fun _ h9 => h9) rfl hin rfl (by decide +kernel) rfl rfl (Nat.le_of_ble_eq_true rfl) dc_Mo_init_67 (fun H locs hP hD hS => ?_)
  have hP : va_P D am_cl [(h0, .inr (9, [.ref q1, .ref q2, .int 0, .ref q3, .ref q4, .ref q5, .ref q6, .ref q7, .ref q8, .null, .null, .null, .null, .null, .int 0, .null, .null, .int 0, .int 0, .int 0, .null, .int 0, .null, .int 0, .int 0, .null, .null, .null, .null, .null, .long 0])), (q1, .inl (cI, 1501, .inl (fun _ => 0))), (q2, .inl (cI, 15010, .inl (fun _ => 0))), (q3, .inl (cI, 3002, .inl (fun _ => 0))), (q4, .inl (cI, 2, .inl (fun _ => 0))), (q5, .inl (cI, 20, .inl (fun _ => 0))), (q6, .inl (cI, 40, .inl (fun _ => 0))), (q7, .inl (cI, 40, .inl (fun _ => 0))), (q8, .inl (cI, 40, .inl (fun _ => 0)))] H := hP
  have hD : va_D A [(h0, .inr (9, [.ref q1, .ref q2, .int 0, .ref q3, .ref q4, .ref q5, .ref q6, .ref q7, .ref q8, .null, .null, .null, .null, .null, .int 0, .null, .null, .int 0, .int 0, .int 0, .null, .int 0, .null, .int 0, .int 0, .null, .null, .null, .null, .null, .long 0])), (q1, .inl (cI, 1501, .inl (fun _ => 0))), (q2, .inl (cI, 15010, .inl (fun _ => 0))), (q3, .inl (cI, 3002, .inl (fun _ => 0))), (q4, .inl (cI, 2, .inl (fun _ => 0))), (q5, .inl (cI, 20, .inl (fun _ => 0))), (q6, .inl (cI, 40, .inl (fun _ => 0))), (q7, .inl (cI, 40, .inl (fun _ => 0))), (q8, .inl (cI, 40, .inl (fun _ => 0)))] := hD
  refine lv_aload_n hx hb dc_Mo_init_70 rfl (lv_at hl 0 rfl) ?_
  refine lv_sipush (v := 240) hx hb dc_Mo_init_71 (by decide) ?_
  refine am_newa (N := 240) hx hb (hts _ am_warr) hK hP hD hS hA (by decide) rfl (Nat.le_of_ble_eq_true rfl) (Nat.le_of_ble_eq_true rfl) (Nat.le_of_ble_eq_true rfl) dc_Mo_init_74 (fun q9 H hP hD hS => ?_)
  have hP : va_P D am_cl [(h0, .inr (9, [.ref q1, .ref q2, .int 0, .ref q3, .ref q4, .ref q5, .ref q6, .ref q7, .ref q8, .null, .null, .null, .null, .null, .int 0, .null, .null, .int 0, .int 0, .int 0, .null, .int 0, .null, .int 0, .int 0, .null, .null, .null, .null, .null, .long 0])), (q1, .inl (cI, 1501, .inl (fun _ => 0))), (q2, .inl (cI, 15010, .inl (fun _ => 0))), (q3, .inl (cI, 3002, .inl (fun _ => 0))), (q4, .inl (cI, 2, .inl (fun _ => 0))), (q5, .inl (cI, 20, .inl (fun _ => 0))), (q6, .inl (cI, 40, .inl (fun _ => 0))), (q7, .inl (cI, 40, .inl (fun _ => 0))), (q8, .inl (cI, 40, .inl (fun _ => 0))), (q9, .inl (cI, 240, .inl (fun _ => 0)))] H := hP
  have hD : va_D A [(h0, .inr (9, [.ref q1, .ref q2, .int 0, .ref q3, .ref q4, .ref q5, .ref q6, .ref q7, .ref q8, .null, .null, .null, .null, .null, .int 0, .null, .null, .int 0, .int 0, .int 0, .null, .int 0, .null, .int 0, .int 0, .null, .null, .null, .null, .null, .long 0])), (q1, .inl (cI, 1501, .inl (fun _ => 0))), (q2, .inl (cI, 15010, .inl (fun _ => 0))), (q3, .inl (cI, 3002, .inl (fun _ => 0))), (q4, .inl (cI, 2, .inl (fun _ => 0))), (q5, .inl (cI, 20, .inl (fun _ => 0))), (q6, .inl (cI, 40, .inl (fun _ => 0))), (q7, .inl (cI, 40, .inl (fun _ => 0))), (q8, .inl (cI, 40, .inl (fun _ => 0))), (q9, .inl (cI, 240, .inl (fun _ => 0)))] := hD
  refine W.widen (k := 9) (n := 19895) (by omega) (by omega) ?_
  refine va_putF (D := D) (ci := 9) (v := .ref q9) (ty := tyX9 9) (C := RX9) (T := TX9) (N := 31) hx hb hts am_ws9 tyX9 tyX9_ok nmX9 hown hK hP hD hS 0 rfl rfl 9 (by decide) (hts (.fieldLink RX9 34 "StatuteBookModel" "words" "[I") (am_mem (i := 1033) (by decide +kernel) (by decide +kernel))) (fun _ h9 => h9) rfl hin rfl (by decide +kernel) rfl rfl (Nat.le_of_ble_eq_true rfl) dc_Mo_init_76 (fun H locs hP hD hS => ?_)
  have hP : va_P D am_cl [(h0, .inr (9, [.ref q1, .ref q2, .int 0, .ref q3, .ref q4, .ref q5, .ref q6, .ref q7, .ref q8, .ref q9, .null, .null, .null, .null, .int 0, .null, .null, .int 0, .int 0, .int 0, .null, .int 0, .null, .int 0, .int 0, .null, .null, .null, .null, .null, .long 0])), (q1, .inl (cI, 1501, .inl (fun _ => 0))), (q2, .inl (cI, 15010, .inl (fun _ => 0))), (q3, .inl (cI, 3002, .inl (fun _ => 0))), (q4, .inl (cI, 2, .inl (fun _ => 0))), (q5, .inl (cI, 20, .inl (fun _ => 0))), (q6, .inl (cI, 40, .inl (fun _ => 0))), (q7, .inl (cI, 40, .inl (fun _ => 0))), (q8, .inl (cI, 40, .inl (fun _ => 0))), (q9, .inl (cI, 240, .inl (fun _ => 0)))] H := hP
  have hD : va_D A [(h0, .inr (9, [.ref q1, .ref q2, .int 0, .ref q3, .ref q4, .ref q5, .ref q6, .ref q7, .ref q8, .ref q9, .null, .null, .null, .null, .int 0, .null, .null, .int 0, .int 0, .int 0, .null, .int 0, .null, .int 0, .int 0, .null, .null, .null, .null, .null, .long 0])), (q1, .inl (cI, 1501, .inl (fun _ => 0))), (q2, .inl (cI, 15010, .inl (fun _ => 0))), (q3, .inl (cI, 3002, .inl (fun _ => 0))), (q4, .inl (cI, 2, .inl (fun _ => 0))), (q5, .inl (cI, 20, .inl (fun _ => 0))), (q6, .inl (cI, 40, .inl (fun _ => 0))), (q7, .inl (cI, 40, .inl (fun _ => 0))), (q8, .inl (cI, 40, .inl (fun _ => 0))), (q9, .inl (cI, 240, .inl (fun _ => 0)))] := hD
  refine lv_aload_n hx hb dc_Mo_init_79 rfl (lv_at hl 0 rfl) ?_
  refine lv_bipush (v := 40) hx hb dc_Mo_init_80 (by decide) ?_
  refine am_newa (N := 40) hx hb (hts _ am_warr) hK hP hD hS hA (by decide) rfl (Nat.le_of_ble_eq_true rfl) (Nat.le_of_ble_eq_true rfl) (Nat.le_of_ble_eq_true rfl) dc_Mo_init_82 (fun q10 H hP hD hS => ?_)
  have hP : va_P D am_cl [(h0, .inr (9, [.ref q1, .ref q2, .int 0, .ref q3, .ref q4, .ref q5, .ref q6, .ref q7, .ref q8, .ref q9, .null, .null, .null, .null, .int 0, .null, .null, .int 0, .int 0, .int 0, .null, .int 0, .null, .int 0, .int 0, .null, .null, .null, .null, .null, .long 0])), (q1, .inl (cI, 1501, .inl (fun _ => 0))), (q2, .inl (cI, 15010, .inl (fun _ => 0))), (q3, .inl (cI, 3002, .inl (fun _ => 0))), (q4, .inl (cI, 2, .inl (fun _ => 0))), (q5, .inl (cI, 20, .inl (fun _ => 0))), (q6, .inl (cI, 40, .inl (fun _ => 0))), (q7, .inl (cI, 40, .inl (fun _ => 0))), (q8, .inl (cI, 40, .inl (fun _ => 0))), (q9, .inl (cI, 240, .inl (fun _ => 0))), (q10, .inl (cI, 40, .inl (fun _ => 0)))] H := hP
  have hD : va_D A [(h0, .inr (9, [.ref q1, .ref q2, .int 0, .ref q3, .ref q4, .ref q5, .ref q6, .ref q7, .ref q8, .ref q9, .null, .null, .null, .null, .int 0, .null, .null, .int 0, .int 0, .int 0, .null, .int 0, .null, .int 0, .int 0, .null, .null, .null, .null, .null, .long 0])), (q1, .inl (cI, 1501, .inl (fun _ => 0))), (q2, .inl (cI, 15010, .inl (fun _ => 0))), (q3, .inl (cI, 3002, .inl (fun _ => 0))), (q4, .inl (cI, 2, .inl (fun _ => 0))), (q5, .inl (cI, 20, .inl (fun _ => 0))), (q6, .inl (cI, 40, .inl (fun _ => 0))), (q7, .inl (cI, 40, .inl (fun _ => 0))), (q8, .inl (cI, 40, .inl (fun _ => 0))), (q9, .inl (cI, 240, .inl (fun _ => 0))), (q10, .inl (cI, 40, .inl (fun _ => 0)))] := hD
  refine W.widen (k := 10) (n := 19935) (by omega) (by omega) ?_
  refine va_putF (D := D) (ci := 9) (v := .ref q10) (ty := tyX9 10) (C := RX9) (T := TX9) (N := 31) hx hb hts am_ws9 tyX9 tyX9_ok nmX9 hown hK hP hD hS 0 rfl rfl 10 (by decide) (hts (.fieldLink RX9 37 "StatuteBookModel" "latest" "[I") (am_mem (i := 1034) (by decide +kernel) (by decide +kernel))) (fun _ h9 => h9) rfl hin rfl (by decide +kernel) rfl rfl (Nat.le_of_ble_eq_true rfl) dc_Mo_init_84 (fun H locs hP hD hS => ?_)
  have hP : va_P D am_cl [(h0, .inr (9, [.ref q1, .ref q2, .int 0, .ref q3, .ref q4, .ref q5, .ref q6, .ref q7, .ref q8, .ref q9, .ref q10, .null, .null, .null, .int 0, .null, .null, .int 0, .int 0, .int 0, .null, .int 0, .null, .int 0, .int 0, .null, .null, .null, .null, .null, .long 0])), (q1, .inl (cI, 1501, .inl (fun _ => 0))), (q2, .inl (cI, 15010, .inl (fun _ => 0))), (q3, .inl (cI, 3002, .inl (fun _ => 0))), (q4, .inl (cI, 2, .inl (fun _ => 0))), (q5, .inl (cI, 20, .inl (fun _ => 0))), (q6, .inl (cI, 40, .inl (fun _ => 0))), (q7, .inl (cI, 40, .inl (fun _ => 0))), (q8, .inl (cI, 40, .inl (fun _ => 0))), (q9, .inl (cI, 240, .inl (fun _ => 0))), (q10, .inl (cI, 40, .inl (fun _ => 0)))] H := hP
  have hD : va_D A [(h0, .inr (9, [.ref q1, .ref q2, .int 0, .ref q3, .ref q4, .ref q5, .ref q6, .ref q7, .ref q8, .ref q9, .ref q10, .null, .null, .null, .int 0, .null, .null, .int 0, .int 0, .int 0, .null, .int 0, .null, .int 0, .int 0, .null, .null, .null, .null, .null, .long 0])), (q1, .inl (cI, 1501, .inl (fun _ => 0))), (q2, .inl (cI, 15010, .inl (fun _ => 0))), (q3, .inl (cI, 3002, .inl (fun _ => 0))), (q4, .inl (cI, 2, .inl (fun _ => 0))), (q5, .inl (cI, 20, .inl (fun _ => 0))), (q6, .inl (cI, 40, .inl (fun _ => 0))), (q7, .inl (cI, 40, .inl (fun _ => 0))), (q8, .inl (cI, 40, .inl (fun _ => 0))), (q9, .inl (cI, 240, .inl (fun _ => 0))), (q10, .inl (cI, 40, .inl (fun _ => 0)))] := hD
  refine lv_aload_n hx hb dc_Mo_init_87 rfl (lv_at hl 0 rfl) ?_
  refine lv_bipush (v := 120) hx hb dc_Mo_init_88 (by decide) ?_
  refine am_newa (N := 120) hx hb (hts _ am_warr) hK hP hD hS hA (by decide) rfl (Nat.le_of_ble_eq_true rfl) (Nat.le_of_ble_eq_true rfl) (Nat.le_of_ble_eq_true rfl) dc_Mo_init_90 (fun q11 H hP hD hS => ?_)
  have hP : va_P D am_cl [(h0, .inr (9, [.ref q1, .ref q2, .int 0, .ref q3, .ref q4, .ref q5, .ref q6, .ref q7, .ref q8, .ref q9, .ref q10, .null, .null, .null, .int 0, .null, .null, .int 0, .int 0, .int 0, .null, .int 0, .null, .int 0, .int 0, .null, .null, .null, .null, .null, .long 0])), (q1, .inl (cI, 1501, .inl (fun _ => 0))), (q2, .inl (cI, 15010, .inl (fun _ => 0))), (q3, .inl (cI, 3002, .inl (fun _ => 0))), (q4, .inl (cI, 2, .inl (fun _ => 0))), (q5, .inl (cI, 20, .inl (fun _ => 0))), (q6, .inl (cI, 40, .inl (fun _ => 0))), (q7, .inl (cI, 40, .inl (fun _ => 0))), (q8, .inl (cI, 40, .inl (fun _ => 0))), (q9, .inl (cI, 240, .inl (fun _ => 0))), (q10, .inl (cI, 40, .inl (fun _ => 0))), (q11, .inl (cI, 120, .inl (fun _ => 0)))] H := hP
  have hD : va_D A [(h0, .inr (9, [.ref q1, .ref q2, .int 0, .ref q3, .ref q4, .ref q5, .ref q6, .ref q7, .ref q8, .ref q9, .ref q10, .null, .null, .null, .int 0, .null, .null, .int 0, .int 0, .int 0, .null, .int 0, .null, .int 0, .int 0, .null, .null, .null, .null, .null, .long 0])), (q1, .inl (cI, 1501, .inl (fun _ => 0))), (q2, .inl (cI, 15010, .inl (fun _ => 0))), (q3, .inl (cI, 3002, .inl (fun _ => 0))), (q4, .inl (cI, 2, .inl (fun _ => 0))), (q5, .inl (cI, 20, .inl (fun _ => 0))), (q6, .inl (cI, 40, .inl (fun _ => 0))), (q7, .inl (cI, 40, .inl (fun _ => 0))), (q8, .inl (cI, 40, .inl (fun _ => 0))), (q9, .inl (cI, 240, .inl (fun _ => 0))), (q10, .inl (cI, 40, .inl (fun _ => 0))), (q11, .inl (cI, 120, .inl (fun _ => 0)))] := hD
  refine W.widen (k := 11) (n := 20055) (by omega) (by omega) ?_
  refine va_putF (D := D) (ci := 9) (v := .ref q11) (ty := tyX9 11) (C := RX9) (T := TX9) (N := 31) hx hb hts am_ws9 tyX9 tyX9_ok nmX9 hown hK hP hD hS 0 rfl rfl 11 (by decide) (hts (.fieldLink RX9 40 "StatuteBookModel" "reason" "[I") (am_mem (i := 1035) (by decide +kernel) (by decide +kernel))) (fun _ h9 => h9) rfl hin rfl (by decide +kernel) rfl rfl (Nat.le_of_ble_eq_true rfl) dc_Mo_init_92 (fun H locs hP hD hS => ?_)
  have hP : va_P D am_cl [(h0, .inr (9, [.ref q1, .ref q2, .int 0, .ref q3, .ref q4, .ref q5, .ref q6, .ref q7, .ref q8, .ref q9, .ref q10, .ref q11, .null, .null, .int 0, .null, .null, .int 0, .int 0, .int 0, .null, .int 0, .null, .int 0, .int 0, .null, .null, .null, .null, .null, .long 0])), (q1, .inl (cI, 1501, .inl (fun _ => 0))), (q2, .inl (cI, 15010, .inl (fun _ => 0))), (q3, .inl (cI, 3002, .inl (fun _ => 0))), (q4, .inl (cI, 2, .inl (fun _ => 0))), (q5, .inl (cI, 20, .inl (fun _ => 0))), (q6, .inl (cI, 40, .inl (fun _ => 0))), (q7, .inl (cI, 40, .inl (fun _ => 0))), (q8, .inl (cI, 40, .inl (fun _ => 0))), (q9, .inl (cI, 240, .inl (fun _ => 0))), (q10, .inl (cI, 40, .inl (fun _ => 0))), (q11, .inl (cI, 120, .inl (fun _ => 0)))] H := hP
  have hD : va_D A [(h0, .inr (9, [.ref q1, .ref q2, .int 0, .ref q3, .ref q4, .ref q5, .ref q6, .ref q7, .ref q8, .ref q9, .ref q10, .ref q11, .null, .null, .int 0, .null, .null, .int 0, .int 0, .int 0, .null, .int 0, .null, .int 0, .int 0, .null, .null, .null, .null, .null, .long 0])), (q1, .inl (cI, 1501, .inl (fun _ => 0))), (q2, .inl (cI, 15010, .inl (fun _ => 0))), (q3, .inl (cI, 3002, .inl (fun _ => 0))), (q4, .inl (cI, 2, .inl (fun _ => 0))), (q5, .inl (cI, 20, .inl (fun _ => 0))), (q6, .inl (cI, 40, .inl (fun _ => 0))), (q7, .inl (cI, 40, .inl (fun _ => 0))), (q8, .inl (cI, 40, .inl (fun _ => 0))), (q9, .inl (cI, 240, .inl (fun _ => 0))), (q10, .inl (cI, 40, .inl (fun _ => 0))), (q11, .inl (cI, 120, .inl (fun _ => 0)))] := hD
  refine lv_aload_n hx hb dc_Mo_init_95 rfl (lv_at hl 0 rfl) ?_
  refine lv_bipush (v := 120) hx hb dc_Mo_init_96 (by decide) ?_
  refine am_newa (N := 120) hx hb (hts _ am_warr) hK hP hD hS hA (by decide) rfl (Nat.le_of_ble_eq_true rfl) (Nat.le_of_ble_eq_true rfl) (Nat.le_of_ble_eq_true rfl) dc_Mo_init_98 (fun q12 H hP hD hS => ?_)
  have hP : va_P D am_cl [(h0, .inr (9, [.ref q1, .ref q2, .int 0, .ref q3, .ref q4, .ref q5, .ref q6, .ref q7, .ref q8, .ref q9, .ref q10, .ref q11, .null, .null, .int 0, .null, .null, .int 0, .int 0, .int 0, .null, .int 0, .null, .int 0, .int 0, .null, .null, .null, .null, .null, .long 0])), (q1, .inl (cI, 1501, .inl (fun _ => 0))), (q2, .inl (cI, 15010, .inl (fun _ => 0))), (q3, .inl (cI, 3002, .inl (fun _ => 0))), (q4, .inl (cI, 2, .inl (fun _ => 0))), (q5, .inl (cI, 20, .inl (fun _ => 0))), (q6, .inl (cI, 40, .inl (fun _ => 0))), (q7, .inl (cI, 40, .inl (fun _ => 0))), (q8, .inl (cI, 40, .inl (fun _ => 0))), (q9, .inl (cI, 240, .inl (fun _ => 0))), (q10, .inl (cI, 40, .inl (fun _ => 0))), (q11, .inl (cI, 120, .inl (fun _ => 0))), (q12, .inl (cI, 120, .inl (fun _ => 0)))] H := hP
  have hD : va_D A [(h0, .inr (9, [.ref q1, .ref q2, .int 0, .ref q3, .ref q4, .ref q5, .ref q6, .ref q7, .ref q8, .ref q9, .ref q10, .ref q11, .null, .null, .int 0, .null, .null, .int 0, .int 0, .int 0, .null, .int 0, .null, .int 0, .int 0, .null, .null, .null, .null, .null, .long 0])), (q1, .inl (cI, 1501, .inl (fun _ => 0))), (q2, .inl (cI, 15010, .inl (fun _ => 0))), (q3, .inl (cI, 3002, .inl (fun _ => 0))), (q4, .inl (cI, 2, .inl (fun _ => 0))), (q5, .inl (cI, 20, .inl (fun _ => 0))), (q6, .inl (cI, 40, .inl (fun _ => 0))), (q7, .inl (cI, 40, .inl (fun _ => 0))), (q8, .inl (cI, 40, .inl (fun _ => 0))), (q9, .inl (cI, 240, .inl (fun _ => 0))), (q10, .inl (cI, 40, .inl (fun _ => 0))), (q11, .inl (cI, 120, .inl (fun _ => 0))), (q12, .inl (cI, 120, .inl (fun _ => 0)))] := hD
  refine W.widen (k := 12) (n := 20175) (by omega) (by omega) ?_
  refine va_putF (D := D) (ci := 9) (v := .ref q12) (ty := tyX9 12) (C := RX9) (T := TX9) (N := 31) hx hb hts am_ws9 tyX9 tyX9_ok nmX9 hown hK hP hD hS 0 rfl rfl 12 (by decide) (hts (.fieldLink RX9 43 "StatuteBookModel" "clauseOf" "[I") (am_mem (i := 1036) (by decide +kernel) (by decide +kernel))) (fun _ h9 => h9) rfl hin rfl (by decide +kernel) rfl rfl (Nat.le_of_ble_eq_true rfl) dc_Mo_init_100 (fun H locs hP hD hS => ?_)
  have hP : va_P D am_cl [(h0, .inr (9, [.ref q1, .ref q2, .int 0, .ref q3, .ref q4, .ref q5, .ref q6, .ref q7, .ref q8, .ref q9, .ref q10, .ref q11, .ref q12, .null, .int 0, .null, .null, .int 0, .int 0, .int 0, .null, .int 0, .null, .int 0, .int 0, .null, .null, .null, .null, .null, .long 0])), (q1, .inl (cI, 1501, .inl (fun _ => 0))), (q2, .inl (cI, 15010, .inl (fun _ => 0))), (q3, .inl (cI, 3002, .inl (fun _ => 0))), (q4, .inl (cI, 2, .inl (fun _ => 0))), (q5, .inl (cI, 20, .inl (fun _ => 0))), (q6, .inl (cI, 40, .inl (fun _ => 0))), (q7, .inl (cI, 40, .inl (fun _ => 0))), (q8, .inl (cI, 40, .inl (fun _ => 0))), (q9, .inl (cI, 240, .inl (fun _ => 0))), (q10, .inl (cI, 40, .inl (fun _ => 0))), (q11, .inl (cI, 120, .inl (fun _ => 0))), (q12, .inl (cI, 120, .inl (fun _ => 0)))] H := hP
  have hD : va_D A [(h0, .inr (9, [.ref q1, .ref q2, .int 0, .ref q3, .ref q4, .ref q5, .ref q6, .ref q7, .ref q8, .ref q9, .ref q10, .ref q11, .ref q12, .null, .int 0, .null, .null, .int 0, .int 0, .int 0, .null, .int 0, .null, .int 0, .int 0, .null, .null, .null, .null, .null, .long 0])), (q1, .inl (cI, 1501, .inl (fun _ => 0))), (q2, .inl (cI, 15010, .inl (fun _ => 0))), (q3, .inl (cI, 3002, .inl (fun _ => 0))), (q4, .inl (cI, 2, .inl (fun _ => 0))), (q5, .inl (cI, 20, .inl (fun _ => 0))), (q6, .inl (cI, 40, .inl (fun _ => 0))), (q7, .inl (cI, 40, .inl (fun _ => 0))), (q8, .inl (cI, 40, .inl (fun _ => 0))), (q9, .inl (cI, 240, .inl (fun _ => 0))), (q10, .inl (cI, 40, .inl (fun _ => 0))), (q11, .inl (cI, 120, .inl (fun _ => 0))), (q12, .inl (cI, 120, .inl (fun _ => 0)))] := hD
  refine lv_aload_n hx hb dc_Mo_init_103 rfl (lv_at hl 0 rfl) ?_
  refine lv_bipush (v := 120) hx hb dc_Mo_init_104 (by decide) ?_
  refine am_newa (N := 120) hx hb (hts _ am_warr) hK hP hD hS hA (by decide) rfl (Nat.le_of_ble_eq_true rfl) (Nat.le_of_ble_eq_true rfl) (Nat.le_of_ble_eq_true rfl) dc_Mo_init_106 (fun q13 H hP hD hS => ?_)
  have hP : va_P D am_cl [(h0, .inr (9, [.ref q1, .ref q2, .int 0, .ref q3, .ref q4, .ref q5, .ref q6, .ref q7, .ref q8, .ref q9, .ref q10, .ref q11, .ref q12, .null, .int 0, .null, .null, .int 0, .int 0, .int 0, .null, .int 0, .null, .int 0, .int 0, .null, .null, .null, .null, .null, .long 0])), (q1, .inl (cI, 1501, .inl (fun _ => 0))), (q2, .inl (cI, 15010, .inl (fun _ => 0))), (q3, .inl (cI, 3002, .inl (fun _ => 0))), (q4, .inl (cI, 2, .inl (fun _ => 0))), (q5, .inl (cI, 20, .inl (fun _ => 0))), (q6, .inl (cI, 40, .inl (fun _ => 0))), (q7, .inl (cI, 40, .inl (fun _ => 0))), (q8, .inl (cI, 40, .inl (fun _ => 0))), (q9, .inl (cI, 240, .inl (fun _ => 0))), (q10, .inl (cI, 40, .inl (fun _ => 0))), (q11, .inl (cI, 120, .inl (fun _ => 0))), (q12, .inl (cI, 120, .inl (fun _ => 0))), (q13, .inl (cI, 120, .inl (fun _ => 0)))] H := hP
  have hD : va_D A [(h0, .inr (9, [.ref q1, .ref q2, .int 0, .ref q3, .ref q4, .ref q5, .ref q6, .ref q7, .ref q8, .ref q9, .ref q10, .ref q11, .ref q12, .null, .int 0, .null, .null, .int 0, .int 0, .int 0, .null, .int 0, .null, .int 0, .int 0, .null, .null, .null, .null, .null, .long 0])), (q1, .inl (cI, 1501, .inl (fun _ => 0))), (q2, .inl (cI, 15010, .inl (fun _ => 0))), (q3, .inl (cI, 3002, .inl (fun _ => 0))), (q4, .inl (cI, 2, .inl (fun _ => 0))), (q5, .inl (cI, 20, .inl (fun _ => 0))), (q6, .inl (cI, 40, .inl (fun _ => 0))), (q7, .inl (cI, 40, .inl (fun _ => 0))), (q8, .inl (cI, 40, .inl (fun _ => 0))), (q9, .inl (cI, 240, .inl (fun _ => 0))), (q10, .inl (cI, 40, .inl (fun _ => 0))), (q11, .inl (cI, 120, .inl (fun _ => 0))), (q12, .inl (cI, 120, .inl (fun _ => 0))), (q13, .inl (cI, 120, .inl (fun _ => 0)))] := hD
  refine W.widen (k := 13) (n := 20295) (by omega) (by omega) ?_
  refine va_putF (D := D) (ci := 9) (v := .ref q13) (ty := tyX9 13) (C := RX9) (T := TX9) (N := 31) hx hb hts am_ws9 tyX9 tyX9_ok nmX9 hown hK hP hD hS 0 rfl rfl 13 (by decide) (hts (.fieldLink RX9 46 "StatuteBookModel" "sequence" "[I") (am_mem (i := 1037) (by decide +kernel) (by decide +kernel))) (fun _ h9 => h9) rfl hin rfl (by decide +kernel) rfl rfl (Nat.le_of_ble_eq_true rfl) dc_Mo_init_108 (fun H locs hP hD hS => ?_)
  have hP : va_P D am_cl [(h0, .inr (9, [.ref q1, .ref q2, .int 0, .ref q3, .ref q4, .ref q5, .ref q6, .ref q7, .ref q8, .ref q9, .ref q10, .ref q11, .ref q12, .ref q13, .int 0, .null, .null, .int 0, .int 0, .int 0, .null, .int 0, .null, .int 0, .int 0, .null, .null, .null, .null, .null, .long 0])), (q1, .inl (cI, 1501, .inl (fun _ => 0))), (q2, .inl (cI, 15010, .inl (fun _ => 0))), (q3, .inl (cI, 3002, .inl (fun _ => 0))), (q4, .inl (cI, 2, .inl (fun _ => 0))), (q5, .inl (cI, 20, .inl (fun _ => 0))), (q6, .inl (cI, 40, .inl (fun _ => 0))), (q7, .inl (cI, 40, .inl (fun _ => 0))), (q8, .inl (cI, 40, .inl (fun _ => 0))), (q9, .inl (cI, 240, .inl (fun _ => 0))), (q10, .inl (cI, 40, .inl (fun _ => 0))), (q11, .inl (cI, 120, .inl (fun _ => 0))), (q12, .inl (cI, 120, .inl (fun _ => 0))), (q13, .inl (cI, 120, .inl (fun _ => 0)))] H := hP
  have hD : va_D A [(h0, .inr (9, [.ref q1, .ref q2, .int 0, .ref q3, .ref q4, .ref q5, .ref q6, .ref q7, .ref q8, .ref q9, .ref q10, .ref q11, .ref q12, .ref q13, .int 0, .null, .null, .int 0, .int 0, .int 0, .null, .int 0, .null, .int 0, .int 0, .null, .null, .null, .null, .null, .long 0])), (q1, .inl (cI, 1501, .inl (fun _ => 0))), (q2, .inl (cI, 15010, .inl (fun _ => 0))), (q3, .inl (cI, 3002, .inl (fun _ => 0))), (q4, .inl (cI, 2, .inl (fun _ => 0))), (q5, .inl (cI, 20, .inl (fun _ => 0))), (q6, .inl (cI, 40, .inl (fun _ => 0))), (q7, .inl (cI, 40, .inl (fun _ => 0))), (q8, .inl (cI, 40, .inl (fun _ => 0))), (q9, .inl (cI, 240, .inl (fun _ => 0))), (q10, .inl (cI, 40, .inl (fun _ => 0))), (q11, .inl (cI, 120, .inl (fun _ => 0))), (q12, .inl (cI, 120, .inl (fun _ => 0))), (q13, .inl (cI, 120, .inl (fun _ => 0)))] := hD
  refine lv_aload_n hx hb dc_Mo_init_111 rfl (lv_at hl 0 rfl) ?_
  refine lv_bipush (v := 6) hx hb dc_Mo_init_112 (by decide) ?_
  refine am_newa (N := 6) hx hb (hts _ am_warr) hK hP hD hS hA (by decide) rfl (Nat.le_of_ble_eq_true rfl) (Nat.le_of_ble_eq_true rfl) (Nat.le_of_ble_eq_true rfl) dc_Mo_init_114 (fun q14 H hP hD hS => ?_)
  have hP : va_P D am_cl [(h0, .inr (9, [.ref q1, .ref q2, .int 0, .ref q3, .ref q4, .ref q5, .ref q6, .ref q7, .ref q8, .ref q9, .ref q10, .ref q11, .ref q12, .ref q13, .int 0, .null, .null, .int 0, .int 0, .int 0, .null, .int 0, .null, .int 0, .int 0, .null, .null, .null, .null, .null, .long 0])), (q1, .inl (cI, 1501, .inl (fun _ => 0))), (q2, .inl (cI, 15010, .inl (fun _ => 0))), (q3, .inl (cI, 3002, .inl (fun _ => 0))), (q4, .inl (cI, 2, .inl (fun _ => 0))), (q5, .inl (cI, 20, .inl (fun _ => 0))), (q6, .inl (cI, 40, .inl (fun _ => 0))), (q7, .inl (cI, 40, .inl (fun _ => 0))), (q8, .inl (cI, 40, .inl (fun _ => 0))), (q9, .inl (cI, 240, .inl (fun _ => 0))), (q10, .inl (cI, 40, .inl (fun _ => 0))), (q11, .inl (cI, 120, .inl (fun _ => 0))), (q12, .inl (cI, 120, .inl (fun _ => 0))), (q13, .inl (cI, 120, .inl (fun _ => 0))), (q14, .inl (cI, 6, .inl (fun _ => 0)))] H := hP
  have hD : va_D A [(h0, .inr (9, [.ref q1, .ref q2, .int 0, .ref q3, .ref q4, .ref q5, .ref q6, .ref q7, .ref q8, .ref q9, .ref q10, .ref q11, .ref q12, .ref q13, .int 0, .null, .null, .int 0, .int 0, .int 0, .null, .int 0, .null, .int 0, .int 0, .null, .null, .null, .null, .null, .long 0])), (q1, .inl (cI, 1501, .inl (fun _ => 0))), (q2, .inl (cI, 15010, .inl (fun _ => 0))), (q3, .inl (cI, 3002, .inl (fun _ => 0))), (q4, .inl (cI, 2, .inl (fun _ => 0))), (q5, .inl (cI, 20, .inl (fun _ => 0))), (q6, .inl (cI, 40, .inl (fun _ => 0))), (q7, .inl (cI, 40, .inl (fun _ => 0))), (q8, .inl (cI, 40, .inl (fun _ => 0))), (q9, .inl (cI, 240, .inl (fun _ => 0))), (q10, .inl (cI, 40, .inl (fun _ => 0))), (q11, .inl (cI, 120, .inl (fun _ => 0))), (q12, .inl (cI, 120, .inl (fun _ => 0))), (q13, .inl (cI, 120, .inl (fun _ => 0))), (q14, .inl (cI, 6, .inl (fun _ => 0)))] := hD
  refine W.widen (k := 14) (n := 20301) (by omega) (by omega) ?_
  refine va_putF (D := D) (ci := 9) (v := .ref q14) (ty := tyX9 15) (C := RX9) (T := TX9) (N := 31) hx hb hts am_ws9 tyX9 tyX9_ok nmX9 hown hK hP hD hS 0 rfl rfl 15 (by decide) (hts (.fieldLink RX9 49 "StatuteBookModel" "made" "[I") (am_mem (i := 1039) (by decide +kernel) (by decide +kernel))) (fun _ h9 => h9) rfl hin rfl (by decide +kernel) rfl rfl (Nat.le_of_ble_eq_true rfl) dc_Mo_init_116 (fun H locs hP hD hS => ?_)
  have hP : va_P D am_cl [(h0, .inr (9, [.ref q1, .ref q2, .int 0, .ref q3, .ref q4, .ref q5, .ref q6, .ref q7, .ref q8, .ref q9, .ref q10, .ref q11, .ref q12, .ref q13, .int 0, .ref q14, .null, .int 0, .int 0, .int 0, .null, .int 0, .null, .int 0, .int 0, .null, .null, .null, .null, .null, .long 0])), (q1, .inl (cI, 1501, .inl (fun _ => 0))), (q2, .inl (cI, 15010, .inl (fun _ => 0))), (q3, .inl (cI, 3002, .inl (fun _ => 0))), (q4, .inl (cI, 2, .inl (fun _ => 0))), (q5, .inl (cI, 20, .inl (fun _ => 0))), (q6, .inl (cI, 40, .inl (fun _ => 0))), (q7, .inl (cI, 40, .inl (fun _ => 0))), (q8, .inl (cI, 40, .inl (fun _ => 0))), (q9, .inl (cI, 240, .inl (fun _ => 0))), (q10, .inl (cI, 40, .inl (fun _ => 0))), (q11, .inl (cI, 120, .inl (fun _ => 0))), (q12, .inl (cI, 120, .inl (fun _ => 0))), (q13, .inl (cI, 120, .inl (fun _ => 0))), (q14, .inl (cI, 6, .inl (fun _ => 0)))] H := hP
  have hD : va_D A [(h0, .inr (9, [.ref q1, .ref q2, .int 0, .ref q3, .ref q4, .ref q5, .ref q6, .ref q7, .ref q8, .ref q9, .ref q10, .ref q11, .ref q12, .ref q13, .int 0, .ref q14, .null, .int 0, .int 0, .int 0, .null, .int 0, .null, .int 0, .int 0, .null, .null, .null, .null, .null, .long 0])), (q1, .inl (cI, 1501, .inl (fun _ => 0))), (q2, .inl (cI, 15010, .inl (fun _ => 0))), (q3, .inl (cI, 3002, .inl (fun _ => 0))), (q4, .inl (cI, 2, .inl (fun _ => 0))), (q5, .inl (cI, 20, .inl (fun _ => 0))), (q6, .inl (cI, 40, .inl (fun _ => 0))), (q7, .inl (cI, 40, .inl (fun _ => 0))), (q8, .inl (cI, 40, .inl (fun _ => 0))), (q9, .inl (cI, 240, .inl (fun _ => 0))), (q10, .inl (cI, 40, .inl (fun _ => 0))), (q11, .inl (cI, 120, .inl (fun _ => 0))), (q12, .inl (cI, 120, .inl (fun _ => 0))), (q13, .inl (cI, 120, .inl (fun _ => 0))), (q14, .inl (cI, 6, .inl (fun _ => 0)))] := hD
  refine lv_aload_n hx hb dc_Mo_init_119 rfl (lv_at hl 0 rfl) ?_
  refine lv_bipush (v := 120) hx hb dc_Mo_init_120 (by decide) ?_
  refine am_newa (N := 120) hx hb (hts _ am_warr) hK hP hD hS hA (by decide) rfl (Nat.le_of_ble_eq_true rfl) (Nat.le_of_ble_eq_true rfl) (Nat.le_of_ble_eq_true rfl) dc_Mo_init_122 (fun q15 H hP hD hS => ?_)
  have hP : va_P D am_cl [(h0, .inr (9, [.ref q1, .ref q2, .int 0, .ref q3, .ref q4, .ref q5, .ref q6, .ref q7, .ref q8, .ref q9, .ref q10, .ref q11, .ref q12, .ref q13, .int 0, .ref q14, .null, .int 0, .int 0, .int 0, .null, .int 0, .null, .int 0, .int 0, .null, .null, .null, .null, .null, .long 0])), (q1, .inl (cI, 1501, .inl (fun _ => 0))), (q2, .inl (cI, 15010, .inl (fun _ => 0))), (q3, .inl (cI, 3002, .inl (fun _ => 0))), (q4, .inl (cI, 2, .inl (fun _ => 0))), (q5, .inl (cI, 20, .inl (fun _ => 0))), (q6, .inl (cI, 40, .inl (fun _ => 0))), (q7, .inl (cI, 40, .inl (fun _ => 0))), (q8, .inl (cI, 40, .inl (fun _ => 0))), (q9, .inl (cI, 240, .inl (fun _ => 0))), (q10, .inl (cI, 40, .inl (fun _ => 0))), (q11, .inl (cI, 120, .inl (fun _ => 0))), (q12, .inl (cI, 120, .inl (fun _ => 0))), (q13, .inl (cI, 120, .inl (fun _ => 0))), (q14, .inl (cI, 6, .inl (fun _ => 0))), (q15, .inl (cI, 120, .inl (fun _ => 0)))] H := hP
  have hD : va_D A [(h0, .inr (9, [.ref q1, .ref q2, .int 0, .ref q3, .ref q4, .ref q5, .ref q6, .ref q7, .ref q8, .ref q9, .ref q10, .ref q11, .ref q12, .ref q13, .int 0, .ref q14, .null, .int 0, .int 0, .int 0, .null, .int 0, .null, .int 0, .int 0, .null, .null, .null, .null, .null, .long 0])), (q1, .inl (cI, 1501, .inl (fun _ => 0))), (q2, .inl (cI, 15010, .inl (fun _ => 0))), (q3, .inl (cI, 3002, .inl (fun _ => 0))), (q4, .inl (cI, 2, .inl (fun _ => 0))), (q5, .inl (cI, 20, .inl (fun _ => 0))), (q6, .inl (cI, 40, .inl (fun _ => 0))), (q7, .inl (cI, 40, .inl (fun _ => 0))), (q8, .inl (cI, 40, .inl (fun _ => 0))), (q9, .inl (cI, 240, .inl (fun _ => 0))), (q10, .inl (cI, 40, .inl (fun _ => 0))), (q11, .inl (cI, 120, .inl (fun _ => 0))), (q12, .inl (cI, 120, .inl (fun _ => 0))), (q13, .inl (cI, 120, .inl (fun _ => 0))), (q14, .inl (cI, 6, .inl (fun _ => 0))), (q15, .inl (cI, 120, .inl (fun _ => 0)))] := hD
  refine W.widen (k := 15) (n := 20421) (by omega) (by omega) ?_
  refine va_putF (D := D) (ci := 9) (v := .ref q15) (ty := tyX9 16) (C := RX9) (T := TX9) (N := 31) hx hb hts am_ws9 tyX9 tyX9_ok nmX9 hown hK hP hD hS 0 rfl rfl 16 (by decide) (hts (.fieldLink RX9 52 "StatuteBookModel" "text" "[I") (am_mem (i := 1040) (by decide +kernel) (by decide +kernel))) (fun _ h9 => h9) rfl hin rfl (by decide +kernel) rfl rfl (Nat.le_of_ble_eq_true rfl) dc_Mo_init_124 (fun H locs hP hD hS => ?_)
  have hP : va_P D am_cl [(h0, .inr (9, [.ref q1, .ref q2, .int 0, .ref q3, .ref q4, .ref q5, .ref q6, .ref q7, .ref q8, .ref q9, .ref q10, .ref q11, .ref q12, .ref q13, .int 0, .ref q14, .ref q15, .int 0, .int 0, .int 0, .null, .int 0, .null, .int 0, .int 0, .null, .null, .null, .null, .null, .long 0])), (q1, .inl (cI, 1501, .inl (fun _ => 0))), (q2, .inl (cI, 15010, .inl (fun _ => 0))), (q3, .inl (cI, 3002, .inl (fun _ => 0))), (q4, .inl (cI, 2, .inl (fun _ => 0))), (q5, .inl (cI, 20, .inl (fun _ => 0))), (q6, .inl (cI, 40, .inl (fun _ => 0))), (q7, .inl (cI, 40, .inl (fun _ => 0))), (q8, .inl (cI, 40, .inl (fun _ => 0))), (q9, .inl (cI, 240, .inl (fun _ => 0))), (q10, .inl (cI, 40, .inl (fun _ => 0))), (q11, .inl (cI, 120, .inl (fun _ => 0))), (q12, .inl (cI, 120, .inl (fun _ => 0))), (q13, .inl (cI, 120, .inl (fun _ => 0))), (q14, .inl (cI, 6, .inl (fun _ => 0))), (q15, .inl (cI, 120, .inl (fun _ => 0)))] H := hP
  have hD : va_D A [(h0, .inr (9, [.ref q1, .ref q2, .int 0, .ref q3, .ref q4, .ref q5, .ref q6, .ref q7, .ref q8, .ref q9, .ref q10, .ref q11, .ref q12, .ref q13, .int 0, .ref q14, .ref q15, .int 0, .int 0, .int 0, .null, .int 0, .null, .int 0, .int 0, .null, .null, .null, .null, .null, .long 0])), (q1, .inl (cI, 1501, .inl (fun _ => 0))), (q2, .inl (cI, 15010, .inl (fun _ => 0))), (q3, .inl (cI, 3002, .inl (fun _ => 0))), (q4, .inl (cI, 2, .inl (fun _ => 0))), (q5, .inl (cI, 20, .inl (fun _ => 0))), (q6, .inl (cI, 40, .inl (fun _ => 0))), (q7, .inl (cI, 40, .inl (fun _ => 0))), (q8, .inl (cI, 40, .inl (fun _ => 0))), (q9, .inl (cI, 240, .inl (fun _ => 0))), (q10, .inl (cI, 40, .inl (fun _ => 0))), (q11, .inl (cI, 120, .inl (fun _ => 0))), (q12, .inl (cI, 120, .inl (fun _ => 0))), (q13, .inl (cI, 120, .inl (fun _ => 0))), (q14, .inl (cI, 6, .inl (fun _ => 0))), (q15, .inl (cI, 120, .inl (fun _ => 0)))] := hD
  refine lv_aload_n hx hb dc_Mo_init_127 rfl (lv_at hl 0 rfl) ?_
  refine lv_sipush (v := 492) hx hb dc_Mo_init_128 (by decide) ?_
  refine am_newa (N := 492) hx hb (hts _ am_warr) hK hP hD hS hA (by decide) rfl (Nat.le_of_ble_eq_true rfl) (Nat.le_of_ble_eq_true rfl) (Nat.le_of_ble_eq_true rfl) dc_Mo_init_131 (fun q16 H hP hD hS => ?_)
  have hP : va_P D am_cl [(h0, .inr (9, [.ref q1, .ref q2, .int 0, .ref q3, .ref q4, .ref q5, .ref q6, .ref q7, .ref q8, .ref q9, .ref q10, .ref q11, .ref q12, .ref q13, .int 0, .ref q14, .ref q15, .int 0, .int 0, .int 0, .null, .int 0, .null, .int 0, .int 0, .null, .null, .null, .null, .null, .long 0])), (q1, .inl (cI, 1501, .inl (fun _ => 0))), (q2, .inl (cI, 15010, .inl (fun _ => 0))), (q3, .inl (cI, 3002, .inl (fun _ => 0))), (q4, .inl (cI, 2, .inl (fun _ => 0))), (q5, .inl (cI, 20, .inl (fun _ => 0))), (q6, .inl (cI, 40, .inl (fun _ => 0))), (q7, .inl (cI, 40, .inl (fun _ => 0))), (q8, .inl (cI, 40, .inl (fun _ => 0))), (q9, .inl (cI, 240, .inl (fun _ => 0))), (q10, .inl (cI, 40, .inl (fun _ => 0))), (q11, .inl (cI, 120, .inl (fun _ => 0))), (q12, .inl (cI, 120, .inl (fun _ => 0))), (q13, .inl (cI, 120, .inl (fun _ => 0))), (q14, .inl (cI, 6, .inl (fun _ => 0))), (q15, .inl (cI, 120, .inl (fun _ => 0))), (q16, .inl (cI, 492, .inl (fun _ => 0)))] H := hP
  have hD : va_D A [(h0, .inr (9, [.ref q1, .ref q2, .int 0, .ref q3, .ref q4, .ref q5, .ref q6, .ref q7, .ref q8, .ref q9, .ref q10, .ref q11, .ref q12, .ref q13, .int 0, .ref q14, .ref q15, .int 0, .int 0, .int 0, .null, .int 0, .null, .int 0, .int 0, .null, .null, .null, .null, .null, .long 0])), (q1, .inl (cI, 1501, .inl (fun _ => 0))), (q2, .inl (cI, 15010, .inl (fun _ => 0))), (q3, .inl (cI, 3002, .inl (fun _ => 0))), (q4, .inl (cI, 2, .inl (fun _ => 0))), (q5, .inl (cI, 20, .inl (fun _ => 0))), (q6, .inl (cI, 40, .inl (fun _ => 0))), (q7, .inl (cI, 40, .inl (fun _ => 0))), (q8, .inl (cI, 40, .inl (fun _ => 0))), (q9, .inl (cI, 240, .inl (fun _ => 0))), (q10, .inl (cI, 40, .inl (fun _ => 0))), (q11, .inl (cI, 120, .inl (fun _ => 0))), (q12, .inl (cI, 120, .inl (fun _ => 0))), (q13, .inl (cI, 120, .inl (fun _ => 0))), (q14, .inl (cI, 6, .inl (fun _ => 0))), (q15, .inl (cI, 120, .inl (fun _ => 0))), (q16, .inl (cI, 492, .inl (fun _ => 0)))] := hD
  refine W.widen (k := 16) (n := 20913) (by omega) (by omega) ?_
  refine va_putF (D := D) (ci := 9) (v := .ref q16) (ty := tyX9 20) (C := RX9) (T := TX9) (N := 31) hx hb hts am_ws9 tyX9 tyX9_ok nmX9 hown hK hP hD hS 0 rfl rfl 20 (by decide) (hts (.fieldLink RX9 55 "StatuteBookModel" "read" "[I") (am_mem (i := 1044) (by decide +kernel) (by decide +kernel))) (fun _ h9 => h9) rfl hin rfl (by decide +kernel) rfl rfl (Nat.le_of_ble_eq_true rfl) dc_Mo_init_133 (fun H locs hP hD hS => ?_)
  have hP : va_P D am_cl [(h0, .inr (9, [.ref q1, .ref q2, .int 0, .ref q3, .ref q4, .ref q5, .ref q6, .ref q7, .ref q8, .ref q9, .ref q10, .ref q11, .ref q12, .ref q13, .int 0, .ref q14, .ref q15, .int 0, .int 0, .int 0, .ref q16, .int 0, .null, .int 0, .int 0, .null, .null, .null, .null, .null, .long 0])), (q1, .inl (cI, 1501, .inl (fun _ => 0))), (q2, .inl (cI, 15010, .inl (fun _ => 0))), (q3, .inl (cI, 3002, .inl (fun _ => 0))), (q4, .inl (cI, 2, .inl (fun _ => 0))), (q5, .inl (cI, 20, .inl (fun _ => 0))), (q6, .inl (cI, 40, .inl (fun _ => 0))), (q7, .inl (cI, 40, .inl (fun _ => 0))), (q8, .inl (cI, 40, .inl (fun _ => 0))), (q9, .inl (cI, 240, .inl (fun _ => 0))), (q10, .inl (cI, 40, .inl (fun _ => 0))), (q11, .inl (cI, 120, .inl (fun _ => 0))), (q12, .inl (cI, 120, .inl (fun _ => 0))), (q13, .inl (cI, 120, .inl (fun _ => 0))), (q14, .inl (cI, 6, .inl (fun _ => 0))), (q15, .inl (cI, 120, .inl (fun _ => 0))), (q16, .inl (cI, 492, .inl (fun _ => 0)))] H := hP
  have hD : va_D A [(h0, .inr (9, [.ref q1, .ref q2, .int 0, .ref q3, .ref q4, .ref q5, .ref q6, .ref q7, .ref q8, .ref q9, .ref q10, .ref q11, .ref q12, .ref q13, .int 0, .ref q14, .ref q15, .int 0, .int 0, .int 0, .ref q16, .int 0, .null, .int 0, .int 0, .null, .null, .null, .null, .null, .long 0])), (q1, .inl (cI, 1501, .inl (fun _ => 0))), (q2, .inl (cI, 15010, .inl (fun _ => 0))), (q3, .inl (cI, 3002, .inl (fun _ => 0))), (q4, .inl (cI, 2, .inl (fun _ => 0))), (q5, .inl (cI, 20, .inl (fun _ => 0))), (q6, .inl (cI, 40, .inl (fun _ => 0))), (q7, .inl (cI, 40, .inl (fun _ => 0))), (q8, .inl (cI, 40, .inl (fun _ => 0))), (q9, .inl (cI, 240, .inl (fun _ => 0))), (q10, .inl (cI, 40, .inl (fun _ => 0))), (q11, .inl (cI, 120, .inl (fun _ => 0))), (q12, .inl (cI, 120, .inl (fun _ => 0))), (q13, .inl (cI, 120, .inl (fun _ => 0))), (q14, .inl (cI, 6, .inl (fun _ => 0))), (q15, .inl (cI, 120, .inl (fun _ => 0))), (q16, .inl (cI, 492, .inl (fun _ => 0)))] := hD
  refine lv_aload_n hx hb dc_Mo_init_136 rfl (lv_at hl 0 rfl) ?_
  refine lv_sipush (v := 1000) hx hb dc_Mo_init_137 (by decide) ?_
  refine am_newa (N := 1000) hx hb (hts _ am_warr) hK hP hD hS hA (by decide) rfl (Nat.le_of_ble_eq_true rfl) (Nat.le_of_ble_eq_true rfl) (Nat.le_of_ble_eq_true rfl) dc_Mo_init_140 (fun q17 H hP hD hS => ?_)
  have hP : va_P D am_cl [(h0, .inr (9, [.ref q1, .ref q2, .int 0, .ref q3, .ref q4, .ref q5, .ref q6, .ref q7, .ref q8, .ref q9, .ref q10, .ref q11, .ref q12, .ref q13, .int 0, .ref q14, .ref q15, .int 0, .int 0, .int 0, .ref q16, .int 0, .null, .int 0, .int 0, .null, .null, .null, .null, .null, .long 0])), (q1, .inl (cI, 1501, .inl (fun _ => 0))), (q2, .inl (cI, 15010, .inl (fun _ => 0))), (q3, .inl (cI, 3002, .inl (fun _ => 0))), (q4, .inl (cI, 2, .inl (fun _ => 0))), (q5, .inl (cI, 20, .inl (fun _ => 0))), (q6, .inl (cI, 40, .inl (fun _ => 0))), (q7, .inl (cI, 40, .inl (fun _ => 0))), (q8, .inl (cI, 40, .inl (fun _ => 0))), (q9, .inl (cI, 240, .inl (fun _ => 0))), (q10, .inl (cI, 40, .inl (fun _ => 0))), (q11, .inl (cI, 120, .inl (fun _ => 0))), (q12, .inl (cI, 120, .inl (fun _ => 0))), (q13, .inl (cI, 120, .inl (fun _ => 0))), (q14, .inl (cI, 6, .inl (fun _ => 0))), (q15, .inl (cI, 120, .inl (fun _ => 0))), (q16, .inl (cI, 492, .inl (fun _ => 0))), (q17, .inl (cI, 1000, .inl (fun _ => 0)))] H := hP
  have hD : va_D A [(h0, .inr (9, [.ref q1, .ref q2, .int 0, .ref q3, .ref q4, .ref q5, .ref q6, .ref q7, .ref q8, .ref q9, .ref q10, .ref q11, .ref q12, .ref q13, .int 0, .ref q14, .ref q15, .int 0, .int 0, .int 0, .ref q16, .int 0, .null, .int 0, .int 0, .null, .null, .null, .null, .null, .long 0])), (q1, .inl (cI, 1501, .inl (fun _ => 0))), (q2, .inl (cI, 15010, .inl (fun _ => 0))), (q3, .inl (cI, 3002, .inl (fun _ => 0))), (q4, .inl (cI, 2, .inl (fun _ => 0))), (q5, .inl (cI, 20, .inl (fun _ => 0))), (q6, .inl (cI, 40, .inl (fun _ => 0))), (q7, .inl (cI, 40, .inl (fun _ => 0))), (q8, .inl (cI, 40, .inl (fun _ => 0))), (q9, .inl (cI, 240, .inl (fun _ => 0))), (q10, .inl (cI, 40, .inl (fun _ => 0))), (q11, .inl (cI, 120, .inl (fun _ => 0))), (q12, .inl (cI, 120, .inl (fun _ => 0))), (q13, .inl (cI, 120, .inl (fun _ => 0))), (q14, .inl (cI, 6, .inl (fun _ => 0))), (q15, .inl (cI, 120, .inl (fun _ => 0))), (q16, .inl (cI, 492, .inl (fun _ => 0))), (q17, .inl (cI, 1000, .inl (fun _ => 0)))] := hD
  refine W.widen (k := 17) (n := 21913) (by omega) (by omega) ?_
  refine va_putF (D := D) (ci := 9) (v := .ref q17) (ty := tyX9 22) (C := RX9) (T := TX9) (N := 31) hx hb hts am_ws9 tyX9 tyX9_ok nmX9 hown hK hP hD hS 0 rfl rfl 22 (by decide) (hts (.fieldLink RX9 58 "StatuteBookModel" "output" "[I") (am_mem (i := 1046) (by decide +kernel) (by decide +kernel))) (fun _ h9 => h9) rfl hin rfl (by decide +kernel) rfl rfl (Nat.le_of_ble_eq_true rfl) dc_Mo_init_142 (fun H locs hP hD hS => ?_)
  have hP : va_P D am_cl [(h0, .inr (9, [.ref q1, .ref q2, .int 0, .ref q3, .ref q4, .ref q5, .ref q6, .ref q7, .ref q8, .ref q9, .ref q10, .ref q11, .ref q12, .ref q13, .int 0, .ref q14, .ref q15, .int 0, .int 0, .int 0, .ref q16, .int 0, .ref q17, .int 0, .int 0, .null, .null, .null, .null, .null, .long 0])), (q1, .inl (cI, 1501, .inl (fun _ => 0))), (q2, .inl (cI, 15010, .inl (fun _ => 0))), (q3, .inl (cI, 3002, .inl (fun _ => 0))), (q4, .inl (cI, 2, .inl (fun _ => 0))), (q5, .inl (cI, 20, .inl (fun _ => 0))), (q6, .inl (cI, 40, .inl (fun _ => 0))), (q7, .inl (cI, 40, .inl (fun _ => 0))), (q8, .inl (cI, 40, .inl (fun _ => 0))), (q9, .inl (cI, 240, .inl (fun _ => 0))), (q10, .inl (cI, 40, .inl (fun _ => 0))), (q11, .inl (cI, 120, .inl (fun _ => 0))), (q12, .inl (cI, 120, .inl (fun _ => 0))), (q13, .inl (cI, 120, .inl (fun _ => 0))), (q14, .inl (cI, 6, .inl (fun _ => 0))), (q15, .inl (cI, 120, .inl (fun _ => 0))), (q16, .inl (cI, 492, .inl (fun _ => 0))), (q17, .inl (cI, 1000, .inl (fun _ => 0)))] H := hP
  have hD : va_D A [(h0, .inr (9, [.ref q1, .ref q2, .int 0, .ref q3, .ref q4, .ref q5, .ref q6, .ref q7, .ref q8, .ref q9, .ref q10, .ref q11, .ref q12, .ref q13, .int 0, .ref q14, .ref q15, .int 0, .int 0, .int 0, .ref q16, .int 0, .ref q17, .int 0, .int 0, .null, .null, .null, .null, .null, .long 0])), (q1, .inl (cI, 1501, .inl (fun _ => 0))), (q2, .inl (cI, 15010, .inl (fun _ => 0))), (q3, .inl (cI, 3002, .inl (fun _ => 0))), (q4, .inl (cI, 2, .inl (fun _ => 0))), (q5, .inl (cI, 20, .inl (fun _ => 0))), (q6, .inl (cI, 40, .inl (fun _ => 0))), (q7, .inl (cI, 40, .inl (fun _ => 0))), (q8, .inl (cI, 40, .inl (fun _ => 0))), (q9, .inl (cI, 240, .inl (fun _ => 0))), (q10, .inl (cI, 40, .inl (fun _ => 0))), (q11, .inl (cI, 120, .inl (fun _ => 0))), (q12, .inl (cI, 120, .inl (fun _ => 0))), (q13, .inl (cI, 120, .inl (fun _ => 0))), (q14, .inl (cI, 6, .inl (fun _ => 0))), (q15, .inl (cI, 120, .inl (fun _ => 0))), (q16, .inl (cI, 492, .inl (fun _ => 0))), (q17, .inl (cI, 1000, .inl (fun _ => 0)))] := hD
  refine lv_aload_n hx hb dc_Mo_init_145 rfl (lv_at hl 0 rfl) ?_
  refine lv_bipush (v := 40) hx hb dc_Mo_init_146 (by decide) ?_
  refine am_newa (N := 40) hx hb (hts _ am_warr) hK hP hD hS hA (by decide) rfl (Nat.le_of_ble_eq_true rfl) (Nat.le_of_ble_eq_true rfl) (Nat.le_of_ble_eq_true rfl) dc_Mo_init_148 (fun q18 H hP hD hS => ?_)
  have hP : va_P D am_cl [(h0, .inr (9, [.ref q1, .ref q2, .int 0, .ref q3, .ref q4, .ref q5, .ref q6, .ref q7, .ref q8, .ref q9, .ref q10, .ref q11, .ref q12, .ref q13, .int 0, .ref q14, .ref q15, .int 0, .int 0, .int 0, .ref q16, .int 0, .ref q17, .int 0, .int 0, .null, .null, .null, .null, .null, .long 0])), (q1, .inl (cI, 1501, .inl (fun _ => 0))), (q2, .inl (cI, 15010, .inl (fun _ => 0))), (q3, .inl (cI, 3002, .inl (fun _ => 0))), (q4, .inl (cI, 2, .inl (fun _ => 0))), (q5, .inl (cI, 20, .inl (fun _ => 0))), (q6, .inl (cI, 40, .inl (fun _ => 0))), (q7, .inl (cI, 40, .inl (fun _ => 0))), (q8, .inl (cI, 40, .inl (fun _ => 0))), (q9, .inl (cI, 240, .inl (fun _ => 0))), (q10, .inl (cI, 40, .inl (fun _ => 0))), (q11, .inl (cI, 120, .inl (fun _ => 0))), (q12, .inl (cI, 120, .inl (fun _ => 0))), (q13, .inl (cI, 120, .inl (fun _ => 0))), (q14, .inl (cI, 6, .inl (fun _ => 0))), (q15, .inl (cI, 120, .inl (fun _ => 0))), (q16, .inl (cI, 492, .inl (fun _ => 0))), (q17, .inl (cI, 1000, .inl (fun _ => 0))), (q18, .inl (cI, 40, .inl (fun _ => 0)))] H := hP
  have hD : va_D A [(h0, .inr (9, [.ref q1, .ref q2, .int 0, .ref q3, .ref q4, .ref q5, .ref q6, .ref q7, .ref q8, .ref q9, .ref q10, .ref q11, .ref q12, .ref q13, .int 0, .ref q14, .ref q15, .int 0, .int 0, .int 0, .ref q16, .int 0, .ref q17, .int 0, .int 0, .null, .null, .null, .null, .null, .long 0])), (q1, .inl (cI, 1501, .inl (fun _ => 0))), (q2, .inl (cI, 15010, .inl (fun _ => 0))), (q3, .inl (cI, 3002, .inl (fun _ => 0))), (q4, .inl (cI, 2, .inl (fun _ => 0))), (q5, .inl (cI, 20, .inl (fun _ => 0))), (q6, .inl (cI, 40, .inl (fun _ => 0))), (q7, .inl (cI, 40, .inl (fun _ => 0))), (q8, .inl (cI, 40, .inl (fun _ => 0))), (q9, .inl (cI, 240, .inl (fun _ => 0))), (q10, .inl (cI, 40, .inl (fun _ => 0))), (q11, .inl (cI, 120, .inl (fun _ => 0))), (q12, .inl (cI, 120, .inl (fun _ => 0))), (q13, .inl (cI, 120, .inl (fun _ => 0))), (q14, .inl (cI, 6, .inl (fun _ => 0))), (q15, .inl (cI, 120, .inl (fun _ => 0))), (q16, .inl (cI, 492, .inl (fun _ => 0))), (q17, .inl (cI, 1000, .inl (fun _ => 0))), (q18, .inl (cI, 40, .inl (fun _ => 0)))] := hD
  refine W.widen (k := 18) (n := 21953) (by omega) (by omega) ?_
  refine va_putF (D := D) (ci := 9) (v := .ref q18) (ty := tyX9 25) (C := RX9) (T := TX9) (N := 31) hx hb hts am_ws9 tyX9 tyX9_ok nmX9 hown hK hP hD hS 0 rfl rfl 25 (by decide) (hts (.fieldLink RX9 61 "StatuteBookModel" "thatForce" "[I") (am_mem (i := 1049) (by decide +kernel) (by decide +kernel))) (fun _ h9 => h9) rfl hin rfl (by decide +kernel) rfl rfl (Nat.le_of_ble_eq_true rfl) dc_Mo_init_150 (fun H locs hP hD hS => ?_)
  have hP : va_P D am_cl [(h0, .inr (9, [.ref q1, .ref q2, .int 0, .ref q3, .ref q4, .ref q5, .ref q6, .ref q7, .ref q8, .ref q9, .ref q10, .ref q11, .ref q12, .ref q13, .int 0, .ref q14, .ref q15, .int 0, .int 0, .int 0, .ref q16, .int 0, .ref q17, .int 0, .int 0, .ref q18, .null, .null, .null, .null, .long 0])), (q1, .inl (cI, 1501, .inl (fun _ => 0))), (q2, .inl (cI, 15010, .inl (fun _ => 0))), (q3, .inl (cI, 3002, .inl (fun _ => 0))), (q4, .inl (cI, 2, .inl (fun _ => 0))), (q5, .inl (cI, 20, .inl (fun _ => 0))), (q6, .inl (cI, 40, .inl (fun _ => 0))), (q7, .inl (cI, 40, .inl (fun _ => 0))), (q8, .inl (cI, 40, .inl (fun _ => 0))), (q9, .inl (cI, 240, .inl (fun _ => 0))), (q10, .inl (cI, 40, .inl (fun _ => 0))), (q11, .inl (cI, 120, .inl (fun _ => 0))), (q12, .inl (cI, 120, .inl (fun _ => 0))), (q13, .inl (cI, 120, .inl (fun _ => 0))), (q14, .inl (cI, 6, .inl (fun _ => 0))), (q15, .inl (cI, 120, .inl (fun _ => 0))), (q16, .inl (cI, 492, .inl (fun _ => 0))), (q17, .inl (cI, 1000, .inl (fun _ => 0))), (q18, .inl (cI, 40, .inl (fun _ => 0)))] H := hP
  have hD : va_D A [(h0, .inr (9, [.ref q1, .ref q2, .int 0, .ref q3, .ref q4, .ref q5, .ref q6, .ref q7, .ref q8, .ref q9, .ref q10, .ref q11, .ref q12, .ref q13, .int 0, .ref q14, .ref q15, .int 0, .int 0, .int 0, .ref q16, .int 0, .ref q17, .int 0, .int 0, .ref q18, .null, .null, .null, .null, .long 0])), (q1, .inl (cI, 1501, .inl (fun _ => 0))), (q2, .inl (cI, 15010, .inl (fun _ => 0))), (q3, .inl (cI, 3002, .inl (fun _ => 0))), (q4, .inl (cI, 2, .inl (fun _ => 0))), (q5, .inl (cI, 20, .inl (fun _ => 0))), (q6, .inl (cI, 40, .inl (fun _ => 0))), (q7, .inl (cI, 40, .inl (fun _ => 0))), (q8, .inl (cI, 40, .inl (fun _ => 0))), (q9, .inl (cI, 240, .inl (fun _ => 0))), (q10, .inl (cI, 40, .inl (fun _ => 0))), (q11, .inl (cI, 120, .inl (fun _ => 0))), (q12, .inl (cI, 120, .inl (fun _ => 0))), (q13, .inl (cI, 120, .inl (fun _ => 0))), (q14, .inl (cI, 6, .inl (fun _ => 0))), (q15, .inl (cI, 120, .inl (fun _ => 0))), (q16, .inl (cI, 492, .inl (fun _ => 0))), (q17, .inl (cI, 1000, .inl (fun _ => 0))), (q18, .inl (cI, 40, .inl (fun _ => 0)))] := hD
  refine lv_aload_n hx hb dc_Mo_init_153 rfl (lv_at hl 0 rfl) ?_
  refine lv_bipush (v := 40) hx hb dc_Mo_init_154 (by decide) ?_
  refine am_newa (N := 40) hx hb (hts _ am_warr) hK hP hD hS hA (by decide) rfl (Nat.le_of_ble_eq_true rfl) (Nat.le_of_ble_eq_true rfl) (Nat.le_of_ble_eq_true rfl) dc_Mo_init_156 (fun q19 H hP hD hS => ?_)
  have hP : va_P D am_cl [(h0, .inr (9, [.ref q1, .ref q2, .int 0, .ref q3, .ref q4, .ref q5, .ref q6, .ref q7, .ref q8, .ref q9, .ref q10, .ref q11, .ref q12, .ref q13, .int 0, .ref q14, .ref q15, .int 0, .int 0, .int 0, .ref q16, .int 0, .ref q17, .int 0, .int 0, .ref q18, .null, .null, .null, .null, .long 0])), (q1, .inl (cI, 1501, .inl (fun _ => 0))), (q2, .inl (cI, 15010, .inl (fun _ => 0))), (q3, .inl (cI, 3002, .inl (fun _ => 0))), (q4, .inl (cI, 2, .inl (fun _ => 0))), (q5, .inl (cI, 20, .inl (fun _ => 0))), (q6, .inl (cI, 40, .inl (fun _ => 0))), (q7, .inl (cI, 40, .inl (fun _ => 0))), (q8, .inl (cI, 40, .inl (fun _ => 0))), (q9, .inl (cI, 240, .inl (fun _ => 0))), (q10, .inl (cI, 40, .inl (fun _ => 0))), (q11, .inl (cI, 120, .inl (fun _ => 0))), (q12, .inl (cI, 120, .inl (fun _ => 0))), (q13, .inl (cI, 120, .inl (fun _ => 0))), (q14, .inl (cI, 6, .inl (fun _ => 0))), (q15, .inl (cI, 120, .inl (fun _ => 0))), (q16, .inl (cI, 492, .inl (fun _ => 0))), (q17, .inl (cI, 1000, .inl (fun _ => 0))), (q18, .inl (cI, 40, .inl (fun _ => 0))), (q19, .inl (cI, 40, .inl (fun _ => 0)))] H := hP
  have hD : va_D A [(h0, .inr (9, [.ref q1, .ref q2, .int 0, .ref q3, .ref q4, .ref q5, .ref q6, .ref q7, .ref q8, .ref q9, .ref q10, .ref q11, .ref q12, .ref q13, .int 0, .ref q14, .ref q15, .int 0, .int 0, .int 0, .ref q16, .int 0, .ref q17, .int 0, .int 0, .ref q18, .null, .null, .null, .null, .long 0])), (q1, .inl (cI, 1501, .inl (fun _ => 0))), (q2, .inl (cI, 15010, .inl (fun _ => 0))), (q3, .inl (cI, 3002, .inl (fun _ => 0))), (q4, .inl (cI, 2, .inl (fun _ => 0))), (q5, .inl (cI, 20, .inl (fun _ => 0))), (q6, .inl (cI, 40, .inl (fun _ => 0))), (q7, .inl (cI, 40, .inl (fun _ => 0))), (q8, .inl (cI, 40, .inl (fun _ => 0))), (q9, .inl (cI, 240, .inl (fun _ => 0))), (q10, .inl (cI, 40, .inl (fun _ => 0))), (q11, .inl (cI, 120, .inl (fun _ => 0))), (q12, .inl (cI, 120, .inl (fun _ => 0))), (q13, .inl (cI, 120, .inl (fun _ => 0))), (q14, .inl (cI, 6, .inl (fun _ => 0))), (q15, .inl (cI, 120, .inl (fun _ => 0))), (q16, .inl (cI, 492, .inl (fun _ => 0))), (q17, .inl (cI, 1000, .inl (fun _ => 0))), (q18, .inl (cI, 40, .inl (fun _ => 0))), (q19, .inl (cI, 40, .inl (fun _ => 0)))] := hD
  refine W.widen (k := 19) (n := 21993) (by omega) (by omega) ?_
  refine va_putF (D := D) (ci := 9) (v := .ref q19) (ty := tyX9 26) (C := RX9) (T := TX9) (N := 31) hx hb hts am_ws9 tyX9 tyX9_ok nmX9 hown hK hP hD hS 0 rfl rfl 26 (by decide) (hts (.fieldLink RX9 64 "StatuteBookModel" "thatCode" "[I") (am_mem (i := 1050) (by decide +kernel) (by decide +kernel))) (fun _ h9 => h9) rfl hin rfl (by decide +kernel) rfl rfl (Nat.le_of_ble_eq_true rfl) dc_Mo_init_158 (fun H locs hP hD hS => ?_)
  have hP : va_P D am_cl [(h0, .inr (9, [.ref q1, .ref q2, .int 0, .ref q3, .ref q4, .ref q5, .ref q6, .ref q7, .ref q8, .ref q9, .ref q10, .ref q11, .ref q12, .ref q13, .int 0, .ref q14, .ref q15, .int 0, .int 0, .int 0, .ref q16, .int 0, .ref q17, .int 0, .int 0, .ref q18, .ref q19, .null, .null, .null, .long 0])), (q1, .inl (cI, 1501, .inl (fun _ => 0))), (q2, .inl (cI, 15010, .inl (fun _ => 0))), (q3, .inl (cI, 3002, .inl (fun _ => 0))), (q4, .inl (cI, 2, .inl (fun _ => 0))), (q5, .inl (cI, 20, .inl (fun _ => 0))), (q6, .inl (cI, 40, .inl (fun _ => 0))), (q7, .inl (cI, 40, .inl (fun _ => 0))), (q8, .inl (cI, 40, .inl (fun _ => 0))), (q9, .inl (cI, 240, .inl (fun _ => 0))), (q10, .inl (cI, 40, .inl (fun _ => 0))), (q11, .inl (cI, 120, .inl (fun _ => 0))), (q12, .inl (cI, 120, .inl (fun _ => 0))), (q13, .inl (cI, 120, .inl (fun _ => 0))), (q14, .inl (cI, 6, .inl (fun _ => 0))), (q15, .inl (cI, 120, .inl (fun _ => 0))), (q16, .inl (cI, 492, .inl (fun _ => 0))), (q17, .inl (cI, 1000, .inl (fun _ => 0))), (q18, .inl (cI, 40, .inl (fun _ => 0))), (q19, .inl (cI, 40, .inl (fun _ => 0)))] H := hP
  have hD : va_D A [(h0, .inr (9, [.ref q1, .ref q2, .int 0, .ref q3, .ref q4, .ref q5, .ref q6, .ref q7, .ref q8, .ref q9, .ref q10, .ref q11, .ref q12, .ref q13, .int 0, .ref q14, .ref q15, .int 0, .int 0, .int 0, .ref q16, .int 0, .ref q17, .int 0, .int 0, .ref q18, .ref q19, .null, .null, .null, .long 0])), (q1, .inl (cI, 1501, .inl (fun _ => 0))), (q2, .inl (cI, 15010, .inl (fun _ => 0))), (q3, .inl (cI, 3002, .inl (fun _ => 0))), (q4, .inl (cI, 2, .inl (fun _ => 0))), (q5, .inl (cI, 20, .inl (fun _ => 0))), (q6, .inl (cI, 40, .inl (fun _ => 0))), (q7, .inl (cI, 40, .inl (fun _ => 0))), (q8, .inl (cI, 40, .inl (fun _ => 0))), (q9, .inl (cI, 240, .inl (fun _ => 0))), (q10, .inl (cI, 40, .inl (fun _ => 0))), (q11, .inl (cI, 120, .inl (fun _ => 0))), (q12, .inl (cI, 120, .inl (fun _ => 0))), (q13, .inl (cI, 120, .inl (fun _ => 0))), (q14, .inl (cI, 6, .inl (fun _ => 0))), (q15, .inl (cI, 120, .inl (fun _ => 0))), (q16, .inl (cI, 492, .inl (fun _ => 0))), (q17, .inl (cI, 1000, .inl (fun _ => 0))), (q18, .inl (cI, 40, .inl (fun _ => 0))), (q19, .inl (cI, 40, .inl (fun _ => 0)))] := hD
  refine lv_aload_n hx hb dc_Mo_init_161 rfl (lv_at hl 0 rfl) ?_
  refine lv_bipush (v := 40) hx hb dc_Mo_init_162 (by decide) ?_
  refine am_newa (N := 40) hx hb (hts _ am_warr) hK hP hD hS hA (by decide) rfl (Nat.le_of_ble_eq_true rfl) (Nat.le_of_ble_eq_true rfl) (Nat.le_of_ble_eq_true rfl) dc_Mo_init_164 (fun q20 H hP hD hS => ?_)
  have hP : va_P D am_cl [(h0, .inr (9, [.ref q1, .ref q2, .int 0, .ref q3, .ref q4, .ref q5, .ref q6, .ref q7, .ref q8, .ref q9, .ref q10, .ref q11, .ref q12, .ref q13, .int 0, .ref q14, .ref q15, .int 0, .int 0, .int 0, .ref q16, .int 0, .ref q17, .int 0, .int 0, .ref q18, .ref q19, .null, .null, .null, .long 0])), (q1, .inl (cI, 1501, .inl (fun _ => 0))), (q2, .inl (cI, 15010, .inl (fun _ => 0))), (q3, .inl (cI, 3002, .inl (fun _ => 0))), (q4, .inl (cI, 2, .inl (fun _ => 0))), (q5, .inl (cI, 20, .inl (fun _ => 0))), (q6, .inl (cI, 40, .inl (fun _ => 0))), (q7, .inl (cI, 40, .inl (fun _ => 0))), (q8, .inl (cI, 40, .inl (fun _ => 0))), (q9, .inl (cI, 240, .inl (fun _ => 0))), (q10, .inl (cI, 40, .inl (fun _ => 0))), (q11, .inl (cI, 120, .inl (fun _ => 0))), (q12, .inl (cI, 120, .inl (fun _ => 0))), (q13, .inl (cI, 120, .inl (fun _ => 0))), (q14, .inl (cI, 6, .inl (fun _ => 0))), (q15, .inl (cI, 120, .inl (fun _ => 0))), (q16, .inl (cI, 492, .inl (fun _ => 0))), (q17, .inl (cI, 1000, .inl (fun _ => 0))), (q18, .inl (cI, 40, .inl (fun _ => 0))), (q19, .inl (cI, 40, .inl (fun _ => 0))), (q20, .inl (cI, 40, .inl (fun _ => 0)))] H := hP
  have hD : va_D A [(h0, .inr (9, [.ref q1, .ref q2, .int 0, .ref q3, .ref q4, .ref q5, .ref q6, .ref q7, .ref q8, .ref q9, .ref q10, .ref q11, .ref q12, .ref q13, .int 0, .ref q14, .ref q15, .int 0, .int 0, .int 0, .ref q16, .int 0, .ref q17, .int 0, .int 0, .ref q18, .ref q19, .null, .null, .null, .long 0])), (q1, .inl (cI, 1501, .inl (fun _ => 0))), (q2, .inl (cI, 15010, .inl (fun _ => 0))), (q3, .inl (cI, 3002, .inl (fun _ => 0))), (q4, .inl (cI, 2, .inl (fun _ => 0))), (q5, .inl (cI, 20, .inl (fun _ => 0))), (q6, .inl (cI, 40, .inl (fun _ => 0))), (q7, .inl (cI, 40, .inl (fun _ => 0))), (q8, .inl (cI, 40, .inl (fun _ => 0))), (q9, .inl (cI, 240, .inl (fun _ => 0))), (q10, .inl (cI, 40, .inl (fun _ => 0))), (q11, .inl (cI, 120, .inl (fun _ => 0))), (q12, .inl (cI, 120, .inl (fun _ => 0))), (q13, .inl (cI, 120, .inl (fun _ => 0))), (q14, .inl (cI, 6, .inl (fun _ => 0))), (q15, .inl (cI, 120, .inl (fun _ => 0))), (q16, .inl (cI, 492, .inl (fun _ => 0))), (q17, .inl (cI, 1000, .inl (fun _ => 0))), (q18, .inl (cI, 40, .inl (fun _ => 0))), (q19, .inl (cI, 40, .inl (fun _ => 0))), (q20, .inl (cI, 40, .inl (fun _ => 0)))] := hD
  refine W.widen (k := 20) (n := 22033) (by omega) (by omega) ?_
  refine va_putF (D := D) (ci := 9) (v := .ref q20) (ty := tyX9 27) (C := RX9) (T := TX9) (N := 31) hx hb hts am_ws9 tyX9 tyX9_ok nmX9 hown hK hP hD hS 0 rfl rfl 27 (by decide) (hts (.fieldLink RX9 67 "StatuteBookModel" "thatSize" "[I") (am_mem (i := 1051) (by decide +kernel) (by decide +kernel))) (fun _ h9 => h9) rfl hin rfl (by decide +kernel) rfl rfl (Nat.le_of_ble_eq_true rfl) dc_Mo_init_166 (fun H locs hP hD hS => ?_)
  have hP : va_P D am_cl [(h0, .inr (9, [.ref q1, .ref q2, .int 0, .ref q3, .ref q4, .ref q5, .ref q6, .ref q7, .ref q8, .ref q9, .ref q10, .ref q11, .ref q12, .ref q13, .int 0, .ref q14, .ref q15, .int 0, .int 0, .int 0, .ref q16, .int 0, .ref q17, .int 0, .int 0, .ref q18, .ref q19, .ref q20, .null, .null, .long 0])), (q1, .inl (cI, 1501, .inl (fun _ => 0))), (q2, .inl (cI, 15010, .inl (fun _ => 0))), (q3, .inl (cI, 3002, .inl (fun _ => 0))), (q4, .inl (cI, 2, .inl (fun _ => 0))), (q5, .inl (cI, 20, .inl (fun _ => 0))), (q6, .inl (cI, 40, .inl (fun _ => 0))), (q7, .inl (cI, 40, .inl (fun _ => 0))), (q8, .inl (cI, 40, .inl (fun _ => 0))), (q9, .inl (cI, 240, .inl (fun _ => 0))), (q10, .inl (cI, 40, .inl (fun _ => 0))), (q11, .inl (cI, 120, .inl (fun _ => 0))), (q12, .inl (cI, 120, .inl (fun _ => 0))), (q13, .inl (cI, 120, .inl (fun _ => 0))), (q14, .inl (cI, 6, .inl (fun _ => 0))), (q15, .inl (cI, 120, .inl (fun _ => 0))), (q16, .inl (cI, 492, .inl (fun _ => 0))), (q17, .inl (cI, 1000, .inl (fun _ => 0))), (q18, .inl (cI, 40, .inl (fun _ => 0))), (q19, .inl (cI, 40, .inl (fun _ => 0))), (q20, .inl (cI, 40, .inl (fun _ => 0)))] H := hP
  have hD : va_D A [(h0, .inr (9, [.ref q1, .ref q2, .int 0, .ref q3, .ref q4, .ref q5, .ref q6, .ref q7, .ref q8, .ref q9, .ref q10, .ref q11, .ref q12, .ref q13, .int 0, .ref q14, .ref q15, .int 0, .int 0, .int 0, .ref q16, .int 0, .ref q17, .int 0, .int 0, .ref q18, .ref q19, .ref q20, .null, .null, .long 0])), (q1, .inl (cI, 1501, .inl (fun _ => 0))), (q2, .inl (cI, 15010, .inl (fun _ => 0))), (q3, .inl (cI, 3002, .inl (fun _ => 0))), (q4, .inl (cI, 2, .inl (fun _ => 0))), (q5, .inl (cI, 20, .inl (fun _ => 0))), (q6, .inl (cI, 40, .inl (fun _ => 0))), (q7, .inl (cI, 40, .inl (fun _ => 0))), (q8, .inl (cI, 40, .inl (fun _ => 0))), (q9, .inl (cI, 240, .inl (fun _ => 0))), (q10, .inl (cI, 40, .inl (fun _ => 0))), (q11, .inl (cI, 120, .inl (fun _ => 0))), (q12, .inl (cI, 120, .inl (fun _ => 0))), (q13, .inl (cI, 120, .inl (fun _ => 0))), (q14, .inl (cI, 6, .inl (fun _ => 0))), (q15, .inl (cI, 120, .inl (fun _ => 0))), (q16, .inl (cI, 492, .inl (fun _ => 0))), (q17, .inl (cI, 1000, .inl (fun _ => 0))), (q18, .inl (cI, 40, .inl (fun _ => 0))), (q19, .inl (cI, 40, .inl (fun _ => 0))), (q20, .inl (cI, 40, .inl (fun _ => 0)))] := hD
  refine lv_aload_n hx hb dc_Mo_init_169 rfl (lv_at hl 0 rfl) ?_
  refine lv_sipush (v := 240) hx hb dc_Mo_init_170 (by decide) ?_
  refine am_newa (N := 240) hx hb (hts _ am_warr) hK hP hD hS hA (by decide) rfl (Nat.le_of_ble_eq_true rfl) (Nat.le_of_ble_eq_true rfl) (Nat.le_of_ble_eq_true rfl) dc_Mo_init_173 (fun q21 H hP hD hS => ?_)
  have hP : va_P D am_cl [(h0, .inr (9, [.ref q1, .ref q2, .int 0, .ref q3, .ref q4, .ref q5, .ref q6, .ref q7, .ref q8, .ref q9, .ref q10, .ref q11, .ref q12, .ref q13, .int 0, .ref q14, .ref q15, .int 0, .int 0, .int 0, .ref q16, .int 0, .ref q17, .int 0, .int 0, .ref q18, .ref q19, .ref q20, .null, .null, .long 0])), (q1, .inl (cI, 1501, .inl (fun _ => 0))), (q2, .inl (cI, 15010, .inl (fun _ => 0))), (q3, .inl (cI, 3002, .inl (fun _ => 0))), (q4, .inl (cI, 2, .inl (fun _ => 0))), (q5, .inl (cI, 20, .inl (fun _ => 0))), (q6, .inl (cI, 40, .inl (fun _ => 0))), (q7, .inl (cI, 40, .inl (fun _ => 0))), (q8, .inl (cI, 40, .inl (fun _ => 0))), (q9, .inl (cI, 240, .inl (fun _ => 0))), (q10, .inl (cI, 40, .inl (fun _ => 0))), (q11, .inl (cI, 120, .inl (fun _ => 0))), (q12, .inl (cI, 120, .inl (fun _ => 0))), (q13, .inl (cI, 120, .inl (fun _ => 0))), (q14, .inl (cI, 6, .inl (fun _ => 0))), (q15, .inl (cI, 120, .inl (fun _ => 0))), (q16, .inl (cI, 492, .inl (fun _ => 0))), (q17, .inl (cI, 1000, .inl (fun _ => 0))), (q18, .inl (cI, 40, .inl (fun _ => 0))), (q19, .inl (cI, 40, .inl (fun _ => 0))), (q20, .inl (cI, 40, .inl (fun _ => 0))), (q21, .inl (cI, 240, .inl (fun _ => 0)))] H := hP
  have hD : va_D A [(h0, .inr (9, [.ref q1, .ref q2, .int 0, .ref q3, .ref q4, .ref q5, .ref q6, .ref q7, .ref q8, .ref q9, .ref q10, .ref q11, .ref q12, .ref q13, .int 0, .ref q14, .ref q15, .int 0, .int 0, .int 0, .ref q16, .int 0, .ref q17, .int 0, .int 0, .ref q18, .ref q19, .ref q20, .null, .null, .long 0])), (q1, .inl (cI, 1501, .inl (fun _ => 0))), (q2, .inl (cI, 15010, .inl (fun _ => 0))), (q3, .inl (cI, 3002, .inl (fun _ => 0))), (q4, .inl (cI, 2, .inl (fun _ => 0))), (q5, .inl (cI, 20, .inl (fun _ => 0))), (q6, .inl (cI, 40, .inl (fun _ => 0))), (q7, .inl (cI, 40, .inl (fun _ => 0))), (q8, .inl (cI, 40, .inl (fun _ => 0))), (q9, .inl (cI, 240, .inl (fun _ => 0))), (q10, .inl (cI, 40, .inl (fun _ => 0))), (q11, .inl (cI, 120, .inl (fun _ => 0))), (q12, .inl (cI, 120, .inl (fun _ => 0))), (q13, .inl (cI, 120, .inl (fun _ => 0))), (q14, .inl (cI, 6, .inl (fun _ => 0))), (q15, .inl (cI, 120, .inl (fun _ => 0))), (q16, .inl (cI, 492, .inl (fun _ => 0))), (q17, .inl (cI, 1000, .inl (fun _ => 0))), (q18, .inl (cI, 40, .inl (fun _ => 0))), (q19, .inl (cI, 40, .inl (fun _ => 0))), (q20, .inl (cI, 40, .inl (fun _ => 0))), (q21, .inl (cI, 240, .inl (fun _ => 0)))] := hD
  refine W.widen (k := 21) (n := 22273) (by omega) (by omega) ?_
  refine va_putF (D := D) (ci := 9) (v := .ref q21) (ty := tyX9 28) (C := RX9) (T := TX9) (N := 31) hx hb hts am_ws9 tyX9 tyX9_ok nmX9 hown hK hP hD hS 0 rfl rfl 28 (by decide) (hts (.fieldLink RX9 70 "StatuteBookModel" "thatWords" "[I") (am_mem (i := 1052) (by decide +kernel) (by decide +kernel))) (fun _ h9 => h9) rfl hin rfl (by decide +kernel) rfl rfl (Nat.le_of_ble_eq_true rfl) dc_Mo_init_175 (fun H locs hP hD hS => ?_)
  have hP : va_P D am_cl [(h0, .inr (9, [.ref q1, .ref q2, .int 0, .ref q3, .ref q4, .ref q5, .ref q6, .ref q7, .ref q8, .ref q9, .ref q10, .ref q11, .ref q12, .ref q13, .int 0, .ref q14, .ref q15, .int 0, .int 0, .int 0, .ref q16, .int 0, .ref q17, .int 0, .int 0, .ref q18, .ref q19, .ref q20, .ref q21, .null, .long 0])), (q1, .inl (cI, 1501, .inl (fun _ => 0))), (q2, .inl (cI, 15010, .inl (fun _ => 0))), (q3, .inl (cI, 3002, .inl (fun _ => 0))), (q4, .inl (cI, 2, .inl (fun _ => 0))), (q5, .inl (cI, 20, .inl (fun _ => 0))), (q6, .inl (cI, 40, .inl (fun _ => 0))), (q7, .inl (cI, 40, .inl (fun _ => 0))), (q8, .inl (cI, 40, .inl (fun _ => 0))), (q9, .inl (cI, 240, .inl (fun _ => 0))), (q10, .inl (cI, 40, .inl (fun _ => 0))), (q11, .inl (cI, 120, .inl (fun _ => 0))), (q12, .inl (cI, 120, .inl (fun _ => 0))), (q13, .inl (cI, 120, .inl (fun _ => 0))), (q14, .inl (cI, 6, .inl (fun _ => 0))), (q15, .inl (cI, 120, .inl (fun _ => 0))), (q16, .inl (cI, 492, .inl (fun _ => 0))), (q17, .inl (cI, 1000, .inl (fun _ => 0))), (q18, .inl (cI, 40, .inl (fun _ => 0))), (q19, .inl (cI, 40, .inl (fun _ => 0))), (q20, .inl (cI, 40, .inl (fun _ => 0))), (q21, .inl (cI, 240, .inl (fun _ => 0)))] H := hP
  have hD : va_D A [(h0, .inr (9, [.ref q1, .ref q2, .int 0, .ref q3, .ref q4, .ref q5, .ref q6, .ref q7, .ref q8, .ref q9, .ref q10, .ref q11, .ref q12, .ref q13, .int 0, .ref q14, .ref q15, .int 0, .int 0, .int 0, .ref q16, .int 0, .ref q17, .int 0, .int 0, .ref q18, .ref q19, .ref q20, .ref q21, .null, .long 0])), (q1, .inl (cI, 1501, .inl (fun _ => 0))), (q2, .inl (cI, 15010, .inl (fun _ => 0))), (q3, .inl (cI, 3002, .inl (fun _ => 0))), (q4, .inl (cI, 2, .inl (fun _ => 0))), (q5, .inl (cI, 20, .inl (fun _ => 0))), (q6, .inl (cI, 40, .inl (fun _ => 0))), (q7, .inl (cI, 40, .inl (fun _ => 0))), (q8, .inl (cI, 40, .inl (fun _ => 0))), (q9, .inl (cI, 240, .inl (fun _ => 0))), (q10, .inl (cI, 40, .inl (fun _ => 0))), (q11, .inl (cI, 120, .inl (fun _ => 0))), (q12, .inl (cI, 120, .inl (fun _ => 0))), (q13, .inl (cI, 120, .inl (fun _ => 0))), (q14, .inl (cI, 6, .inl (fun _ => 0))), (q15, .inl (cI, 120, .inl (fun _ => 0))), (q16, .inl (cI, 492, .inl (fun _ => 0))), (q17, .inl (cI, 1000, .inl (fun _ => 0))), (q18, .inl (cI, 40, .inl (fun _ => 0))), (q19, .inl (cI, 40, .inl (fun _ => 0))), (q20, .inl (cI, 40, .inl (fun _ => 0))), (q21, .inl (cI, 240, .inl (fun _ => 0)))] := hD
  refine lv_aload_n hx hb dc_Mo_init_178 rfl (lv_at hl 0 rfl) ?_
  refine lv_bipush (v := 40) hx hb dc_Mo_init_179 (by decide) ?_
  refine am_newa (N := 40) hx hb (hts _ am_warr) hK hP hD hS hA (by decide) rfl (Nat.le_of_ble_eq_true rfl) (Nat.le_of_ble_eq_true rfl) (Nat.le_of_ble_eq_true rfl) dc_Mo_init_181 (fun q22 H hP hD hS => ?_)
  have hP : va_P D am_cl [(h0, .inr (9, [.ref q1, .ref q2, .int 0, .ref q3, .ref q4, .ref q5, .ref q6, .ref q7, .ref q8, .ref q9, .ref q10, .ref q11, .ref q12, .ref q13, .int 0, .ref q14, .ref q15, .int 0, .int 0, .int 0, .ref q16, .int 0, .ref q17, .int 0, .int 0, .ref q18, .ref q19, .ref q20, .ref q21, .null, .long 0])), (q1, .inl (cI, 1501, .inl (fun _ => 0))), (q2, .inl (cI, 15010, .inl (fun _ => 0))), (q3, .inl (cI, 3002, .inl (fun _ => 0))), (q4, .inl (cI, 2, .inl (fun _ => 0))), (q5, .inl (cI, 20, .inl (fun _ => 0))), (q6, .inl (cI, 40, .inl (fun _ => 0))), (q7, .inl (cI, 40, .inl (fun _ => 0))), (q8, .inl (cI, 40, .inl (fun _ => 0))), (q9, .inl (cI, 240, .inl (fun _ => 0))), (q10, .inl (cI, 40, .inl (fun _ => 0))), (q11, .inl (cI, 120, .inl (fun _ => 0))), (q12, .inl (cI, 120, .inl (fun _ => 0))), (q13, .inl (cI, 120, .inl (fun _ => 0))), (q14, .inl (cI, 6, .inl (fun _ => 0))), (q15, .inl (cI, 120, .inl (fun _ => 0))), (q16, .inl (cI, 492, .inl (fun _ => 0))), (q17, .inl (cI, 1000, .inl (fun _ => 0))), (q18, .inl (cI, 40, .inl (fun _ => 0))), (q19, .inl (cI, 40, .inl (fun _ => 0))), (q20, .inl (cI, 40, .inl (fun _ => 0))), (q21, .inl (cI, 240, .inl (fun _ => 0))), (q22, .inl (cI, 40, .inl (fun _ => 0)))] H := hP
  have hD : va_D A [(h0, .inr (9, [.ref q1, .ref q2, .int 0, .ref q3, .ref q4, .ref q5, .ref q6, .ref q7, .ref q8, .ref q9, .ref q10, .ref q11, .ref q12, .ref q13, .int 0, .ref q14, .ref q15, .int 0, .int 0, .int 0, .ref q16, .int 0, .ref q17, .int 0, .int 0, .ref q18, .ref q19, .ref q20, .ref q21, .null, .long 0])), (q1, .inl (cI, 1501, .inl (fun _ => 0))), (q2, .inl (cI, 15010, .inl (fun _ => 0))), (q3, .inl (cI, 3002, .inl (fun _ => 0))), (q4, .inl (cI, 2, .inl (fun _ => 0))), (q5, .inl (cI, 20, .inl (fun _ => 0))), (q6, .inl (cI, 40, .inl (fun _ => 0))), (q7, .inl (cI, 40, .inl (fun _ => 0))), (q8, .inl (cI, 40, .inl (fun _ => 0))), (q9, .inl (cI, 240, .inl (fun _ => 0))), (q10, .inl (cI, 40, .inl (fun _ => 0))), (q11, .inl (cI, 120, .inl (fun _ => 0))), (q12, .inl (cI, 120, .inl (fun _ => 0))), (q13, .inl (cI, 120, .inl (fun _ => 0))), (q14, .inl (cI, 6, .inl (fun _ => 0))), (q15, .inl (cI, 120, .inl (fun _ => 0))), (q16, .inl (cI, 492, .inl (fun _ => 0))), (q17, .inl (cI, 1000, .inl (fun _ => 0))), (q18, .inl (cI, 40, .inl (fun _ => 0))), (q19, .inl (cI, 40, .inl (fun _ => 0))), (q20, .inl (cI, 40, .inl (fun _ => 0))), (q21, .inl (cI, 240, .inl (fun _ => 0))), (q22, .inl (cI, 40, .inl (fun _ => 0)))] := hD
  refine W.widen (k := 22) (n := 22313) (by omega) (by omega) ?_
  refine va_putF (D := D) (ci := 9) (v := .ref q22) (ty := tyX9 29) (C := RX9) (T := TX9) (N := 31) hx hb hts am_ws9 tyX9 tyX9_ok nmX9 hown hK hP hD hS 0 rfl rfl 29 (by decide) (hts (.fieldLink RX9 73 "StatuteBookModel" "far" "[I") (am_mem (i := 1053) (by decide +kernel) (by decide +kernel))) (fun _ h9 => h9) rfl hin rfl (by decide +kernel) rfl rfl (Nat.le_of_ble_eq_true rfl) dc_Mo_init_183 (fun H locs hP hD hS => ?_)
  have hP : va_P D am_cl [(h0, .inr (9, [.ref q1, .ref q2, .int 0, .ref q3, .ref q4, .ref q5, .ref q6, .ref q7, .ref q8, .ref q9, .ref q10, .ref q11, .ref q12, .ref q13, .int 0, .ref q14, .ref q15, .int 0, .int 0, .int 0, .ref q16, .int 0, .ref q17, .int 0, .int 0, .ref q18, .ref q19, .ref q20, .ref q21, .ref q22, .long 0])), (q1, .inl (cI, 1501, .inl (fun _ => 0))), (q2, .inl (cI, 15010, .inl (fun _ => 0))), (q3, .inl (cI, 3002, .inl (fun _ => 0))), (q4, .inl (cI, 2, .inl (fun _ => 0))), (q5, .inl (cI, 20, .inl (fun _ => 0))), (q6, .inl (cI, 40, .inl (fun _ => 0))), (q7, .inl (cI, 40, .inl (fun _ => 0))), (q8, .inl (cI, 40, .inl (fun _ => 0))), (q9, .inl (cI, 240, .inl (fun _ => 0))), (q10, .inl (cI, 40, .inl (fun _ => 0))), (q11, .inl (cI, 120, .inl (fun _ => 0))), (q12, .inl (cI, 120, .inl (fun _ => 0))), (q13, .inl (cI, 120, .inl (fun _ => 0))), (q14, .inl (cI, 6, .inl (fun _ => 0))), (q15, .inl (cI, 120, .inl (fun _ => 0))), (q16, .inl (cI, 492, .inl (fun _ => 0))), (q17, .inl (cI, 1000, .inl (fun _ => 0))), (q18, .inl (cI, 40, .inl (fun _ => 0))), (q19, .inl (cI, 40, .inl (fun _ => 0))), (q20, .inl (cI, 40, .inl (fun _ => 0))), (q21, .inl (cI, 240, .inl (fun _ => 0))), (q22, .inl (cI, 40, .inl (fun _ => 0)))] H := hP
  have hD : va_D A [(h0, .inr (9, [.ref q1, .ref q2, .int 0, .ref q3, .ref q4, .ref q5, .ref q6, .ref q7, .ref q8, .ref q9, .ref q10, .ref q11, .ref q12, .ref q13, .int 0, .ref q14, .ref q15, .int 0, .int 0, .int 0, .ref q16, .int 0, .ref q17, .int 0, .int 0, .ref q18, .ref q19, .ref q20, .ref q21, .ref q22, .long 0])), (q1, .inl (cI, 1501, .inl (fun _ => 0))), (q2, .inl (cI, 15010, .inl (fun _ => 0))), (q3, .inl (cI, 3002, .inl (fun _ => 0))), (q4, .inl (cI, 2, .inl (fun _ => 0))), (q5, .inl (cI, 20, .inl (fun _ => 0))), (q6, .inl (cI, 40, .inl (fun _ => 0))), (q7, .inl (cI, 40, .inl (fun _ => 0))), (q8, .inl (cI, 40, .inl (fun _ => 0))), (q9, .inl (cI, 240, .inl (fun _ => 0))), (q10, .inl (cI, 40, .inl (fun _ => 0))), (q11, .inl (cI, 120, .inl (fun _ => 0))), (q12, .inl (cI, 120, .inl (fun _ => 0))), (q13, .inl (cI, 120, .inl (fun _ => 0))), (q14, .inl (cI, 6, .inl (fun _ => 0))), (q15, .inl (cI, 120, .inl (fun _ => 0))), (q16, .inl (cI, 492, .inl (fun _ => 0))), (q17, .inl (cI, 1000, .inl (fun _ => 0))), (q18, .inl (cI, 40, .inl (fun _ => 0))), (q19, .inl (cI, 40, .inl (fun _ => 0))), (q20, .inl (cI, 40, .inl (fun _ => 0))), (q21, .inl (cI, 240, .inl (fun _ => 0))), (q22, .inl (cI, 40, .inl (fun _ => 0)))] := hD
  have hP9 := hP.sub (ws' := [(h0, .inr (9, [.ref q1, .ref q2, .int 0, .ref q3, .ref q4, .ref q5, .ref q6, .ref q7, .ref q8, .ref q9, .ref q10, .ref q11, .ref q12, .ref q13, .int 0, .ref q14, .ref q15, .int 0, .int 0, .int 0, .ref q16, .int 0, .ref q17, .int 0, .int 0, .ref q18, .ref q19, .ref q20, .ref q21, .ref q22, .long 0])), (q1, .inl (cI, 1501, .inl (fun _ => 0))), (q2, .inl (cI, 15010, .inl (fun _ => 0))), (q3, .inl (cI, 3002, .inl (fun _ => 0))), (q4, .inl (cI, 2, .inl (fun _ => 0))), (q5, .inl (cI, 20, .inl (fun _ => 0))), (q6, .inl (cI, 40, .inl (fun _ => 0))), (q7, .inl (cI, 40, .inl (fun _ => 0))), (q8, .inl (cI, 40, .inl (fun _ => 0))), (q9, .inl (cI, 240, .inl (fun _ => 0))), (q10, .inl (cI, 40, .inl (fun _ => 0))), (q11, .inl (cI, 120, .inl (fun _ => 0))), (q12, .inl (cI, 120, .inl (fun _ => 0))), (q13, .inl (cI, 120, .inl (fun _ => 0))), (q14, .inl (cI, 6, .inl (fun _ => 0))), (q15, .inl (cI, 120, .inl (fun _ => 0))), (q16, .inl (cI, 492, .inl (fun _ => 0))), (q17, .inl (cI, 1000, .inl (fun _ => 0))), (q18, .inl (cI, 40, .inl (fun _ => 0))), (q19, .inl (cI, 40, .inl (fun _ => 0))), (q20, .inl (cI, 40, .inl (fun _ => 0))), (q21, .inl (cI, 240, .inl (fun _ => 0))), (q22, .inl (cI, 40, .inl (fun _ => 0)))]) [0, 1, 2, 3, 4, 5, 6, 7, 8, 9, 10, 11, 12, 13, 14, 15, 16, 17, 18, 19, 20, 21, 22] rfl
  exact W.vret hx hb hr (fun t ht hW => ⟨⟨(fun k => match k with | 1 => q1 | 2 => q2 | 3 => q3 | 4 => q4 | 5 => q5 | 6 => q6 | 7 => q7 | 8 => q8 | 9 => q9 | 10 => q10 | 11 => q11 | 12 => q12 | 13 => q13 | 14 => q14 | 15 => q15 | 16 => q16 | 17 => q17 | 18 => q18 | 19 => q19 | 20 => q20 | 21 => q21 | 22 => q22 | _ => 0), rfl, trivial, by rw [ht]; exact hP9, va_K.moved hW.alike hK, hD⟩, hS.F ht⟩) hS.2.2 dc_Mo_init_186
end
section
/-! THE CLAIM OUT OF ONE WALK OF THE LAW'S BODY. Your part is whole_start (and what it stands on); all else here is the same for every law, but numbers. -/
def lw_P (b : Addr) (xs : List Int32) (args : Array Value) (s : State) : Prop := args = #[.ref b] ∧ s.IntsAt b xs ∧ xs.length ≤ 2560 ∧ (Jvm.Cond.and given_1 narrow_1).before args s = true
def lw_Q (_ : Array Value) (s : State) (o : Outcome) (t : State) : Prop := o = .returned (some (.int 1)) ∧ Framed s o t [] 600000 7302250
def lw_Z (below : List Frame) (a : Array Value) (s : State) : State → Prop := fun t => ∃ o, t.status = .running ∧ Ended t below o ∧ lw_Q a s o t
/-- the law's own end, with 1 on the stack, nothing written that was there before, its room as the claim has it -/
theorem lw_ret {p : Program} {l : Launch} {e : Env} {s : State} {m : MethodId} {below : List Frame} {meth : Method} {c : Code} {b : Nat} (hx : p.tables.exec = Jvm.exec) (hb : c.code = code) (hr : meth.sig.returnType = ret) (hlocks : meth.locks = false) {pc : Nat} {H : Heap} {ls : Array Slot} (hdg : decode code pc = .ok (.ireturn, 1)) : W p l e room_1 s m #[Value.ref b] below meth c H [] 600000 7302250 (lw_Z below #[Value.ref b] s) (F0 m pc ls [.int 1]) := by
  intro T hT X
  obtain ⟨fs, hret, hrun, hended, hW, hframe⟩ := X.leave (v := some (.int 1)) (hlocks := hlocks) (fun h => by rw [hr] at h; cases h)
  have hmeth' : T.vm.method? m = some meth := X.method'
  refine ⟨T.setFrames fs, ?_, .returned (some (.int 1)), hrun, hended, rfl, ⟨_, rfl⟩, hW, hframe⟩
  jvm_step X.here [X.here.top, hx, hb, hdg, hmeth', hr, ret, narrow_b1]
  (try refine ⟨rfl, ?_⟩); (try refine ⟨rfl, ?_⟩)
  first | (intro acts; rw [hret _ acts rfl rfl rfl]) | rw [hret _ _ rfl rfl rfl]
  exact Steps.refl _
/-- what holds at the law's entry: the machine, the code, the tables' words (any of lw_tbl by 'hts w (by decide +kernel)'), the script of L ints xs at the cell b, what the Statement gives of the start (any of its parts by flat_of_before) -/
def lw_At (p : Program) (s : State) (m : MethodId) (meth : Method) (c : Code) (b L : Nat) (xs : Nat → Int32) : Prop :=
  p.tables.exec = Jvm.exec ∧ c.code = code ∧ meth.sig.returnType = ret ∧ c.maxLocals = 4 ∧ s.vm.findClass R_law = some m.cls ∧ (∀ w ∈ lw_tbl, w.before #[Value.ref b] s = true) ∧ va_X b L xs s s.heap ∧ b < s.heap.size ∧ meth.locks = false ∧ (Jvm.Cond.and given_1 narrow_1).before #[Value.ref b] s = true

def am_tk : List Nat := [85, 91, 93, 95, 97, 67, 76, 81, 116]
def am_tx : List String := ["insert", "replace", "repeal", "renumber", "in", "to", "for", "put", "saving"]
def am_tm (i : Nat) : Term := .string "StatuteBook$Reader" (am_tk.getD i 0)
/-- the memory at the beginning: a script of L ints, all else is 0 -/
def am_M0 (L : Nat) (xs : Nat → Int32) : am_M := fun a k => if a = 5000 then xs k else if a = 5001 then Int32.ofNat L else 0
def am_ad (b q0 qm : Nat) (f g adK adV : Nat → Nat) : Nat → Nat := fun k => if k = 0 then q0 else if k < 58 then f k else if k = 58 then qm else if k < 81 then g (k - 58) else if k = 5000 then b else if k < 6100 then adK (k - 6000) else adV (k - 6100)
theorem am_lg00 : am_lg 0 0 = 0 := by decide +kernel
theorem am_lgM0 (L : Nat) (xs : Nat → Int32) (i j : Nat) : am_lg (am_M0 L xs 58 i) (am_M0 L xs 58 j) = 0 := am_lg00
set_option maxRecDepth 100000 in
theorem am_wd58 (cI : ClassId) (b q0 qm : Nat) (f g adK adV : Nat → Nat) (L : Nat) (xs : Nat → Int32) : am_ce cI (am_ad b q0 qm f g adK adV) (am_M0 L xs) 58 (.inr (9, [62, 63, 0, 64, 65, 66, 67, 68, 69, 70, 71, 72, 73, 74, 0, 75, 76, 0, 0, 0, 77, 0, 78, 0, 0, 79, 80, 81, 82, 83, 1])) = .inr (9, [.ref (g 1), .ref (g 2), .int 0, .ref (g 3), .ref (g 4), .ref (g 5), .ref (g 6), .ref (g 7), .ref (g 8), .ref (g 9), .ref (g 10), .ref (g 11), .ref (g 12), .ref (g 13), .int 0, .ref (g 14), .ref (g 15), .int 0, .int 0, .int 0, .ref (g 16), .int 0, .ref (g 17), .int 0, .int 0, .ref (g 18), .ref (g 19), .ref (g 20), .ref (g 21), .ref (g 22), .long 0]) := by
  unfold am_ce
  dsimp only
  simp only [List.mapIdx_cons, List.mapIdx_nil, am_fw, am_lgM0]
  rfl
set_option maxRecDepth 100000 in
theorem am_wd0 (cI : ClassId) (b q0 qm : Nat) (f g adK adV : Nat → Nat) (L : Nat) (xs : Nat → Int32) : am_wd cI (am_ad b q0 qm f g adK adV) (am_M0 L xs) = aw_SB cI q0 f ++ aw_Mo cI qm g := by
  apply List.ext_getElem?
  intro k
  rw [am_wd_get]
  match k with
  | 0 => rfl
  | 1 => rfl
  | 2 => rfl
  | 3 => rfl
  | 4 => rfl
  | 5 => rfl
  | 6 => rfl
  | 7 => rfl
  | 8 => rfl
  | 9 => rfl
  | 10 => rfl
  | 11 => rfl
  | 12 => rfl
  | 13 => rfl
  | 14 => rfl
  | 15 => rfl
  | 16 => rfl
  | 17 => rfl
  | 18 => rfl
  | 19 => rfl
  | 20 => rfl
  | 21 => rfl
  | 22 => rfl
  | 23 => rfl
  | 24 => rfl
  | 25 => rfl
  | 26 => rfl
  | 27 => rfl
  | 28 => rfl
  | 29 => rfl
  | 30 => rfl
  | 31 => rfl
  | 32 => rfl
  | 33 => rfl
  | 34 => rfl
  | 35 => rfl
  | 36 => rfl
  | 37 => rfl
  | 38 => rfl
  | 39 => rfl
  | 40 => rfl
  | 41 => rfl
  | 42 => rfl
  | 43 => rfl
  | 44 => rfl
  | 45 => rfl
  | 46 => rfl
  | 47 => rfl
  | 48 => rfl
  | 49 => rfl
  | 50 => rfl
  | 51 => rfl
  | 52 => rfl
  | 53 => rfl
  | 54 => rfl
  | 55 => rfl
  | 56 => rfl
  | 57 => rfl
  | 58 => show some (qm, am_ce cI (am_ad b q0 qm f g adK adV) (am_M0 L xs) 58 (.inr (9, [62, 63, 0, 64, 65, 66, 67, 68, 69, 70, 71, 72, 73, 74, 0, 75, 76, 0, 0, 0, 77, 0, 78, 0, 0, 79, 80, 81, 82, 83, 1]))) = _; rw [am_wd58]; rfl
  | 59 => rfl
  | 60 => rfl
  | 61 => rfl
  | 62 => rfl
  | 63 => rfl
  | 64 => rfl
  | 65 => rfl
  | 66 => rfl
  | 67 => rfl
  | 68 => rfl
  | 69 => rfl
  | 70 => rfl
  | 71 => rfl
  | 72 => rfl
  | 73 => rfl
  | 74 => rfl
  | 75 => rfl
  | 76 => rfl
  | 77 => rfl
  | 78 => rfl
  | 79 => rfl
  | 80 => rfl
  | k + 81 => rfl
theorem am_Zat {args : Array Value} {s : State} {b L : Nat} {xs : Nat → Int32} (hts : ∀ w ∈ lw_tbl, w.before args s = true) (hgv : (Jvm.Cond.and given_1 narrow_1).before args s = true) (hX : va_X b L xs s s.heap) (hb : b < s.heap.size) (hL : L < 2 ^ 31) :
    ∃ (adK adV : Nat → Nat) (z : Value), ∀ (q0 qm : Nat) (f g : Nat → Nat), am_Z (am_ad b q0 qm f g adK adV) z L xs (fun q => s.heap.size ≤ q) s s.heap := by
  have hs := flat_of_before _ hgv
  have hA : ∀ a : Nat, a < s.heap.size → ¬ (fun q : Nat => s.heap.size ≤ q) a := fun a h => Nat.not_le.mpr h
  have hw : ∀ (i : Nat) (w : Cond), lw_tbl[i]? = some w → w.before args s = true := fun i w h => hts w (List.mem_of_getElem? h)
  have hex : ∀ i : Nat, i < 9 → (Cond.exactly (am_tm i) "java/lang/String").before args s = true := fun i hi => match i, hi with
    | 0, _ => hs _ (by decide +kernel)
    | 1, _ => hs _ (by decide +kernel)
    | 2, _ => hs _ (by decide +kernel)
    | 3, _ => hs _ (by decide +kernel)
    | 4, _ => hs _ (by decide +kernel)
    | 5, _ => hs _ (by decide +kernel)
    | 6, _ => hs _ (by decide +kernel)
    | 7, _ => hs _ (by decide +kernel)
    | 8, _ => hs _ (by decide +kernel)
    | i + 9, hi => absurd hi (by omega)
  have hco : ∀ i : Nat, i < 9 → (Cond.eq (.field (am_tm i) "java/lang/String" "coder" "B") (.int 0)).before args s = true := fun i hi => match i, hi with
    | 0, _ => hs _ (by decide +kernel)
    | 1, _ => hs _ (by decide +kernel)
    | 2, _ => hs _ (by decide +kernel)
    | 3, _ => hs _ (by decide +kernel)
    | 4, _ => hs _ (by decide +kernel)
    | 5, _ => hs _ (by decide +kernel)
    | 6, _ => hs _ (by decide +kernel)
    | 7, _ => hs _ (by decide +kernel)
    | 8, _ => hs _ (by decide +kernel)
    | i + 9, hi => absurd hi (by omega)
  have har : ∀ i : Nat, i < 9 → (Cond.arrayOf (.field (am_tm i) "java/lang/String" "value" "[B") .byte).before args s = true := fun i hi => match i, hi with
    | 0, _ => hs _ (by decide +kernel)
    | 1, _ => hs _ (by decide +kernel)
    | 2, _ => hs _ (by decide +kernel)
    | 3, _ => hs _ (by decide +kernel)
    | 4, _ => hs _ (by decide +kernel)
    | 5, _ => hs _ (by decide +kernel)
    | 6, _ => hs _ (by decide +kernel)
    | 7, _ => hs _ (by decide +kernel)
    | 8, _ => hs _ (by decide +kernel)
    | i + 9, hi => absurd hi (by omega)
  have hle : ∀ i : Nat, i < 9 → (Cond.eq (.length (.field (am_tm i) "java/lang/String" "value" "[B")) (.int (Int32.ofNat (am_sl.getD i 0)))).before args s = true := fun i hi => match i, hi with
    | 0, _ => hs _ (by decide +kernel)
    | 1, _ => hs _ (by decide +kernel)
    | 2, _ => hs _ (by decide +kernel)
    | 3, _ => hs _ (by decide +kernel)
    | 4, _ => hs _ (by decide +kernel)
    | 5, _ => hs _ (by decide +kernel)
    | 6, _ => hs _ (by decide +kernel)
    | 7, _ => hs _ (by decide +kernel)
    | 8, _ => hs _ (by decide +kernel)
    | i + 9, hi => absurd hi (by omega)
  have hel : ∀ i : Nat, i < 9 → ∀ j : Nat, j < am_sl.getD i 0 → (Cond.eq (.elem (.field (am_tm i) "java/lang/String" "value" "[B") (.int (Int32.ofNat j))) (.int ((am_sb.getD i []).getD j 0))).before args s = true := fun i hi => match i, hi with
    | 0, _ => fun j hj => match j, hj with
      | 0, _ => hs _ (by decide +kernel)
      | 1, _ => hs _ (by decide +kernel)
      | 2, _ => hs _ (by decide +kernel)
      | 3, _ => hs _ (by decide +kernel)
      | 4, _ => hs _ (by decide +kernel)
      | 5, _ => hs _ (by decide +kernel)
      | j + 6, hj => absurd hj (by show ¬ j + 6 < 6; omega)
    | 1, _ => fun j hj => match j, hj with
      | 0, _ => hs _ (by decide +kernel)
      | 1, _ => hs _ (by decide +kernel)
      | 2, _ => hs _ (by decide +kernel)
      | 3, _ => hs _ (by decide +kernel)
      | 4, _ => hs _ (by decide +kernel)
      | 5, _ => hs _ (by decide +kernel)
      | 6, _ => hs _ (by decide +kernel)
      | j + 7, hj => absurd hj (by show ¬ j + 7 < 7; omega)
    | 2, _ => fun j hj => match j, hj with
      | 0, _ => hs _ (by decide +kernel)
      | 1, _ => hs _ (by decide +kernel)
      | 2, _ => hs _ (by decide +kernel)
      | 3, _ => hs _ (by decide +kernel)
      | 4, _ => hs _ (by decide +kernel)
      | 5, _ => hs _ (by decide +kernel)
      | j + 6, hj => absurd hj (by show ¬ j + 6 < 6; omega)
    | 3, _ => fun j hj => match j, hj with
      | 0, _ => hs _ (by decide +kernel)
      | 1, _ => hs _ (by decide +kernel)
      | 2, _ => hs _ (by decide +kernel)
      | 3, _ => hs _ (by decide +kernel)
      | 4, _ => hs _ (by decide +kernel)
      | 5, _ => hs _ (by decide +kernel)
      | 6, _ => hs _ (by decide +kernel)
      | 7, _ => hs _ (by decide +kernel)
      | j + 8, hj => absurd hj (by show ¬ j + 8 < 8; omega)
    | 4, _ => fun j hj => match j, hj with
      | 0, _ => hs _ (by decide +kernel)
      | 1, _ => hs _ (by decide +kernel)
      | j + 2, hj => absurd hj (by show ¬ j + 2 < 2; omega)
    | 5, _ => fun j hj => match j, hj with
      | 0, _ => hs _ (by decide +kernel)
      | 1, _ => hs _ (by decide +kernel)
      | j + 2, hj => absurd hj (by show ¬ j + 2 < 2; omega)
    | 6, _ => fun j hj => match j, hj with
      | 0, _ => hs _ (by decide +kernel)
      | 1, _ => hs _ (by decide +kernel)
      | 2, _ => hs _ (by decide +kernel)
      | j + 3, hj => absurd hj (by show ¬ j + 3 < 3; omega)
    | 7, _ => fun j hj => match j, hj with
      | 0, _ => hs _ (by decide +kernel)
      | 1, _ => hs _ (by decide +kernel)
      | 2, _ => hs _ (by decide +kernel)
      | j + 3, hj => absurd hj (by show ¬ j + 3 < 3; omega)
    | 8, _ => fun j hj => match j, hj with
      | 0, _ => hs _ (by decide +kernel)
      | 1, _ => hs _ (by decide +kernel)
      | 2, _ => hs _ (by decide +kernel)
      | 3, _ => hs _ (by decide +kernel)
      | 4, _ => hs _ (by decide +kernel)
      | 5, _ => hs _ (by decide +kernel)
      | j + 6, hj => absurd hj (by show ¬ j + 6 < 6; omega)
    | i + 9, hi => absurd hi (by omega)
  have hne : ∀ i j : Nat, i < 9 → j < 9 → i ≠ j → (Cond.not (Cond.eq (am_tm i) (am_tm j))).before args s = true ∨ (Cond.not (Cond.eq (am_tm j) (am_tm i))).before args s = true := fun i j hi hj hij => match i, j, hi, hj, hij with
    | 0, 0, _, _, hij => absurd rfl hij
    | 0, 1, _, _, _ => Or.inl (hs _ (by decide +kernel))
    | 0, 2, _, _, _ => Or.inl (hs _ (by decide +kernel))
    | 0, 3, _, _, _ => Or.inl (hs _ (by decide +kernel))
    | 0, 4, _, _, _ => Or.inl (hs _ (by decide +kernel))
    | 0, 5, _, _, _ => Or.inl (hs _ (by decide +kernel))
    | 0, 6, _, _, _ => Or.inl (hs _ (by decide +kernel))
    | 0, 7, _, _, _ => Or.inl (hs _ (by decide +kernel))
    | 0, 8, _, _, _ => Or.inl (hs _ (by decide +kernel))
    | 1, 0, _, _, _ => Or.inr (hs _ (by decide +kernel))
    | 1, 1, _, _, hij => absurd rfl hij
    | 1, 2, _, _, _ => Or.inl (hs _ (by decide +kernel))
    | 1, 3, _, _, _ => Or.inl (hs _ (by decide +kernel))
    | 1, 4, _, _, _ => Or.inl (hs _ (by decide +kernel))
    | 1, 5, _, _, _ => Or.inl (hs _ (by decide +kernel))
    | 1, 6, _, _, _ => Or.inl (hs _ (by decide +kernel))
    | 1, 7, _, _, _ => Or.inl (hs _ (by decide +kernel))
    | 1, 8, _, _, _ => Or.inl (hs _ (by decide +kernel))
    | 2, 0, _, _, _ => Or.inr (hs _ (by decide +kernel))
    | 2, 1, _, _, _ => Or.inr (hs _ (by decide +kernel))
    | 2, 2, _, _, hij => absurd rfl hij
    | 2, 3, _, _, _ => Or.inl (hs _ (by decide +kernel))
    | 2, 4, _, _, _ => Or.inl (hs _ (by decide +kernel))
    | 2, 5, _, _, _ => Or.inl (hs _ (by decide +kernel))
    | 2, 6, _, _, _ => Or.inl (hs _ (by decide +kernel))
    | 2, 7, _, _, _ => Or.inl (hs _ (by decide +kernel))
    | 2, 8, _, _, _ => Or.inl (hs _ (by decide +kernel))
    | 3, 0, _, _, _ => Or.inr (hs _ (by decide +kernel))
    | 3, 1, _, _, _ => Or.inr (hs _ (by decide +kernel))
    | 3, 2, _, _, _ => Or.inr (hs _ (by decide +kernel))
    | 3, 3, _, _, hij => absurd rfl hij
    | 3, 4, _, _, _ => Or.inl (hs _ (by decide +kernel))
    | 3, 5, _, _, _ => Or.inl (hs _ (by decide +kernel))
    | 3, 6, _, _, _ => Or.inl (hs _ (by decide +kernel))
    | 3, 7, _, _, _ => Or.inl (hs _ (by decide +kernel))
    | 3, 8, _, _, _ => Or.inl (hs _ (by decide +kernel))
    | 4, 0, _, _, _ => Or.inr (hs _ (by decide +kernel))
    | 4, 1, _, _, _ => Or.inr (hs _ (by decide +kernel))
    | 4, 2, _, _, _ => Or.inr (hs _ (by decide +kernel))
    | 4, 3, _, _, _ => Or.inr (hs _ (by decide +kernel))
    | 4, 4, _, _, hij => absurd rfl hij
    | 4, 5, _, _, _ => Or.inl (hs _ (by decide +kernel))
    | 4, 6, _, _, _ => Or.inl (hs _ (by decide +kernel))
    | 4, 7, _, _, _ => Or.inl (hs _ (by decide +kernel))
    | 4, 8, _, _, _ => Or.inl (hs _ (by decide +kernel))
    | 5, 0, _, _, _ => Or.inr (hs _ (by decide +kernel))
    | 5, 1, _, _, _ => Or.inr (hs _ (by decide +kernel))
    | 5, 2, _, _, _ => Or.inr (hs _ (by decide +kernel))
    | 5, 3, _, _, _ => Or.inr (hs _ (by decide +kernel))
    | 5, 4, _, _, _ => Or.inr (hs _ (by decide +kernel))
    | 5, 5, _, _, hij => absurd rfl hij
    | 5, 6, _, _, _ => Or.inl (hs _ (by decide +kernel))
    | 5, 7, _, _, _ => Or.inl (hs _ (by decide +kernel))
    | 5, 8, _, _, _ => Or.inl (hs _ (by decide +kernel))
    | 6, 0, _, _, _ => Or.inr (hs _ (by decide +kernel))
    | 6, 1, _, _, _ => Or.inr (hs _ (by decide +kernel))
    | 6, 2, _, _, _ => Or.inr (hs _ (by decide +kernel))
    | 6, 3, _, _, _ => Or.inr (hs _ (by decide +kernel))
    | 6, 4, _, _, _ => Or.inr (hs _ (by decide +kernel))
    | 6, 5, _, _, _ => Or.inr (hs _ (by decide +kernel))
    | 6, 6, _, _, hij => absurd rfl hij
    | 6, 7, _, _, _ => Or.inl (hs _ (by decide +kernel))
    | 6, 8, _, _, _ => Or.inl (hs _ (by decide +kernel))
    | 7, 0, _, _, _ => Or.inr (hs _ (by decide +kernel))
    | 7, 1, _, _, _ => Or.inr (hs _ (by decide +kernel))
    | 7, 2, _, _, _ => Or.inr (hs _ (by decide +kernel))
    | 7, 3, _, _, _ => Or.inr (hs _ (by decide +kernel))
    | 7, 4, _, _, _ => Or.inr (hs _ (by decide +kernel))
    | 7, 5, _, _, _ => Or.inr (hs _ (by decide +kernel))
    | 7, 6, _, _, _ => Or.inr (hs _ (by decide +kernel))
    | 7, 7, _, _, hij => absurd rfl hij
    | 7, 8, _, _, _ => Or.inl (hs _ (by decide +kernel))
    | 8, 0, _, _, _ => Or.inr (hs _ (by decide +kernel))
    | 8, 1, _, _, _ => Or.inr (hs _ (by decide +kernel))
    | 8, 2, _, _, _ => Or.inr (hs _ (by decide +kernel))
    | 8, 3, _, _, _ => Or.inr (hs _ (by decide +kernel))
    | 8, 4, _, _, _ => Or.inr (hs _ (by decide +kernel))
    | 8, 5, _, _, _ => Or.inr (hs _ (by decide +kernel))
    | 8, 6, _, _, _ => Or.inr (hs _ (by decide +kernel))
    | 8, 7, _, _, _ => Or.inr (hs _ (by decide +kernel))
    | 8, 8, _, _, hij => absurd rfl hij
    | i + 9, _, hi, _, _ => absurd hi (by omega)
    | 0, j + 9, _, hj, _ => absurd hj (by omega)
    | 1, j + 9, _, hj, _ => absurd hj (by omega)
    | 2, j + 9, _, hj, _ => absurd hj (by omega)
    | 3, j + 9, _, hj, _ => absurd hj (by omega)
    | 4, j + 9, _, hj, _ => absurd hj (by omega)
    | 5, j + 9, _, hj, _ => absurd hj (by omega)
    | 6, j + 9, _, hj, _ => absurd hj (by omega)
    | 7, j + 9, _, hj, _ => absurd hj (by omega)
    | 8, j + 9, _, hj, _ => absurd hj (by omega)
  obtain ⟨adK, adV, hS1, hS2⟩ := vk_Sof (args := args) (s := s) (N := 9) (tm := am_tm) (len := am_sl) (byt := am_sb) (A := fun q => s.heap.size ≤ q) (fun i hi => match i, hi with
    | 0, _ => by decide +kernel
    | 1, _ => by decide +kernel
    | 2, _ => by decide +kernel
    | 3, _ => by decide +kernel
    | 4, _ => by decide +kernel
    | 5, _ => by decide +kernel
    | 6, _ => by decide +kernel
    | 7, _ => by decide +kernel
    | 8, _ => by decide +kernel
    | i + 9, hi => absurd hi (by omega)) hex hco har hle hel hne hA
  have hZ1 : va_Z "java/lang/String" "COMPACT_STRINGS" "Z" (.int 1) (fun q => s.heap.size ≤ q) s s.heap := va_Zof (hw 395 _ (by decide +kernel)) (hw 120 _ (by decide +kernel)) (va_eqi (hs _ (by decide +kernel))) hA
  have hZq : va_Zq "jdk/internal/util/Preconditions" "SIOOBE_FORMATTER" "Ljava/util/function/BiFunction;" (fun q => s.heap.size ≤ q) s s.heap := va_Zqof (hw 411 _ (by decide +kernel)) (hw 122 _ (by decide +kernel)) (hs _ (by decide +kernel)) hA
  obtain ⟨z, hz1, hz2⟩ : ∃ z : Value, va_Z "jdk/internal/util/Preconditions" "SIOOBE_FORMATTER" "Ljava/util/function/BiFunction;" z (fun q => s.heap.size ≤ q) s s.heap ∧ am_zok z := by
    rcases hZq with h | ⟨t, h⟩
    · exact ⟨_, h, Or.inl rfl⟩
    · exact ⟨_, h, Or.inr ⟨t, rfl⟩⟩
  refine ⟨adK, adV, z, fun q0 qm f g => ?_⟩
  have e1 : ∀ i, i < 9 → am_ad b q0 qm f g adK adV (6000 + i) = adK i := fun i hi => by
    unfold am_ad
    rw [if_neg (by omega), if_neg (by omega), if_neg (by omega), if_neg (by omega), if_neg (by omega), if_pos (by omega), show 6000 + i - 6000 = i by omega]
  have e2 : ∀ i, i < 9 → am_ad b q0 qm f g adK adV (6100 + i) = adV i := fun i hi => by
    unfold am_ad
    rw [if_neg (by omega), if_neg (by omega), if_neg (by omega), if_neg (by omega), if_neg (by omega), if_neg (by omega), show 6100 + i - 6100 = i by omega]
  have e3 : am_ad b q0 qm f g adK adV 5000 = b := rfl
  refine ⟨fun i hi => ?_, hZ1, hz1, hz2, fun k j hk => ?_, hX, hb, Nat.not_le.mpr hb, hL, fun p a i b n d h hp => va_Nw.of rfl (hw p _ hp)⟩
  · rw [e1 i hi, e2 i hi]
    exact hS1.1 i hi
  · have hj := am_as_ks hk
    rw [e1 j hj]
    have hm := am_as_mem hk
    have hh : ∀ q ∈ am_ks5, am_tk.getD q.2 0 = q.1 ∧ ∃ i : Nat, lw_tbl[i]? = some (Cond.stringRef "StatuteBook$Reader" q.1 (am_tx.getD q.2 "")) := by
      intro q hq
      simp only [am_ks5, List.mem_cons, List.not_mem_nil, or_false] at hq
      rcases hq with rfl | rfl | rfl | rfl | rfl | rfl | rfl | rfl | rfl
      · exact ⟨by decide +kernel, 481, by decide +kernel⟩
      · exact ⟨by decide +kernel, 487, by decide +kernel⟩
      · exact ⟨by decide +kernel, 492, by decide +kernel⟩
      · exact ⟨by decide +kernel, 381, by decide +kernel⟩
      · exact ⟨by decide +kernel, 437, by decide +kernel⟩
      · exact ⟨by decide +kernel, 438, by decide +kernel⟩
      · exact ⟨by decide +kernel, 439, by decide +kernel⟩
      · exact ⟨by decide +kernel, 440, by decide +kernel⟩
      · exact ⟨by decide +kernel, 497, by decide +kernel⟩
    obtain ⟨g1, i, g2⟩ := hh _ hm
    dsimp only at g1 g2
    refine ⟨am_tx.getD j "", vk_R.of (hw i _ g2) ?_⟩
    have := hS2 j hj
    unfold am_tm at this
    rw [g1] at this
    exact this
theorem dlw_0 : decode code 0 = .ok (.new 7, 3) := by decide +kernel
theorem dlw_3 : decode code 3 = .ok (.dup, 1) := by decide +kernel
theorem dlw_4 : decode code 4 = .ok (.invokespecial 9, 3) := by decide +kernel
theorem dlw_7 : decode code 7 = .ok (.astore_n 1, 1) := by decide +kernel
theorem dlw_8 : decode code 8 = .ok (.new 10, 3) := by decide +kernel
theorem dlw_11 : decode code 11 = .ok (.dup, 1) := by decide +kernel
theorem dlw_12 : decode code 12 = .ok (.invokespecial 12, 3) := by decide +kernel
theorem dlw_15 : decode code 15 = .ok (.astore_n 2, 1) := by decide +kernel
theorem dlw_16 : decode code 16 = .ok (.iconst 0, 1) := by decide +kernel
theorem dlw_17 : decode code 17 = .ok (.istore_n 3, 1) := by decide +kernel
set_option maxHeartbeats 8000000 in
set_option maxRecDepth 100000 in
/-- THE LAW, from its entry, over what the abstract machine does from its loop on -/
theorem whole_start_open (hpure : ∀ (L : Nat) (xs : Nat → Int32), L ≤ 2560 → am_x t_LAW_law (18, [.ref 5000, .ref 0, .ref 58, .int 0], [], am_M0 L xs) (fun rv _ => rv = some (.int 1)))
    {p : Program} {e : Env} {s : State} {m : MethodId} {below : List Frame} {meth : Method} {c : Code} (l : Launch) {b L : Nat} {xs : Nat → Int32} (hL : L ≤ 2560) (C0 : lw_At p s m meth c b L xs) : W p l e room_1 s m #[Value.ref b] below meth c s.heap [] 0 0 (lw_Z below #[Value.ref b] s) (entryFrame m ([Value.ref b] : List Value).toArray 4) := by
  obtain ⟨hx, hb, hr, hml, hown, hts0, hX, hbl, hlocks, hgv⟩ := id C0
  have hts := am_tbl_before hts0
  have hA : ∀ q : Nat, s.heap.size ≤ q → (fun q : Nat => s.heap.size ≤ q) q := fun _ h => h
  obtain ⟨adK, adV, z, hZ⟩ := am_Zat hts0 hgv hX hbl (by omega)
  have hNw : am_nsm s := fun p a i x h q => va_Nw.of rfl (hts0 _ (List.mem_of_getElem? q))
  obtain ⟨cI, hI1, hI2⟩ := am_arrI (hts _ am_warr)
  obtain ⟨c0, iS0, hKn0⟩ := u_known (C := RX0) (T := TX0) (N := 1) (n := 1) hts am_ws0 (hts (.instantiable RX0 1) (am_mem (i := 204) (by decide +kernel) (by decide +kernel)))
  obtain ⟨c1, iS1, hKn1⟩ := u_known (C := RX1) (T := TX1) (N := 4) (n := 4) hts am_ws1 (hts (.instantiable RX1 4) (am_mem (i := 217) (by decide +kernel) (by decide +kernel)))
  obtain ⟨c2, iS2, hKn2⟩ := u_known (C := RX2) (T := TX2) (N := 3) (n := 3) hts am_ws2 (hts (.instantiable RX2 3) (am_mem (i := 159) (by decide +kernel) (by decide +kernel)))
  obtain ⟨c3, iS3, hKn3⟩ := u_known (C := RX3) (T := TX3) (N := 11) (n := 11) hts am_ws3 (hts (.instantiable RX3 11) (am_mem (i := 238) (by decide +kernel) (by decide +kernel)))
  obtain ⟨c4, iS4, hKn4⟩ := u_known (C := RX4) (T := TX4) (N := 2) (n := 2) hts am_ws4 (hts (.instantiable RX4 2) (am_mem (i := 142) (by decide +kernel) (by decide +kernel)))
  obtain ⟨c5, iS5, hKn5⟩ := u_known (C := RX5) (T := TX5) (N := 4) (n := 4) hts am_ws5 (hts (.instantiable RX5 4) (am_mem (i := 136) (by decide +kernel) (by decide +kernel)))
  obtain ⟨c6, iS6, hKn6⟩ := u_known (C := RX6) (T := TX6) (N := 1) (n := 1) hts am_ws6 (hts (.instantiable RX6 1) (am_mem (i := 165) (by decide +kernel) (by decide +kernel)))
  obtain ⟨c7, iS7, hKn7⟩ := u_known (C := RX7) (T := TX7) (N := 4) (n := 4) hts am_ws7 (hts (.instantiable RX7 4) (am_mem (i := 280) (by decide +kernel) (by decide +kernel)))
  obtain ⟨c8, iS8, hKn8⟩ := u_known (C := RX8) (T := TX8) (N := 7) (n := 7) hts am_ws8 (hts (.instantiable RX8 7) (am_mem (i := 128) (by decide +kernel) (by decide +kernel)))
  obtain ⟨c9, iS9, hKn9⟩ := u_known (C := RX9) (T := TX9) (N := 31) (n := 31) hts am_ws9 (hts (.instantiable RX9 31) (am_mem (i := 1019) (by decide +kernel) (by decide +kernel)))
  obtain ⟨D, hKc⟩ : ∃ D : va_G, ∀ (k : Nat) (q : vw_C), am_cl[k]? = some q → u_Kn s q.1 q.2.1 q.2.2 (D.1 k) (D.2 k) := by
    refine ⟨(fun k => match k with | 0 => c0 | 1 => c1 | 2 => c2 | 3 => c3 | 4 => c4 | 5 => c5 | 6 => c6 | 7 => c7 | 8 => c8 | _ => c9, fun k => match k with | 0 => iS0 | 1 => iS1 | 2 => iS2 | 3 => iS3 | 4 => iS4 | 5 => iS5 | 6 => iS6 | 7 => iS7 | 8 => iS8 | _ => iS9), ?_⟩
    intro k q hq
    match k, hq with
    | 0, hq => cases hq; exact hKn0
    | 1, hq => cases hq; exact hKn1
    | 2, hq => cases hq; exact hKn2
    | 3, hq => cases hq; exact hKn3
    | 4, hq => cases hq; exact hKn4
    | 5, hq => cases hq; exact hKn5
    | 6, hq => cases hq; exact hKn6
    | 7, hq => cases hq; exact hKn7
    | 8, hq => cases hq; exact hKn8
    | 9, hq => cases hq; exact hKn9
    | k + 10, hq => simp [am_cl] at hq
  have hS : va_S (fun q : Nat => s.heap.size ≤ q) s.heap s.heap [] := va_S.rf
  have hK : va_K D am_cl [(cI, .int)] s := ⟨hKc, fun k q h => by
    match k, h with
    | 0, h => cases h; exact ⟨hI1, hI2⟩
    | k + 1, h => simp at h⟩
  have hP : va_P D am_cl [] s.heap := fun k q h => by simp at h
  have hD : va_D (fun q : Nat => s.heap.size ≤ q) [] := ⟨fun i j p q h => by simp at h, fun k q h => by simp at h⟩
  have hl := lv_entry ([.ref b]) (n := 4) (Nat.le_of_ble_eq_true rfl)
  rw [lg_entry_eq]
  generalize (lg_sl ([.ref b]) ++ List.replicate (4 - (lg_sl ([.ref b])).length) Slot.unset).toArray = ls at hl ⊢
  have hl : lv_has ls 4 [(0, .ref b)] := hl
  refine va_new (ci := 8) (fs := [.null, .null, .null, .null, .null, .null, .null]) (C := RX8) (T := TX8) (N := 7) hx hb hts am_ws8 tyX8 tyX8_ok hown (hts (.classLink R_law 7 RX8) (am_mem (i := 127) (by decide +kernel) (by decide +kernel))) (hts (.instantiable RX8 7) (am_mem (i := 128) (by decide +kernel) (by decide +kernel))) (hts (.initialized RX8) (am_mem (i := 109) (by decide +kernel) (by decide +kernel))) hK hP hD hS hA rfl (fun j hj => by match j, hj with | 0, _ => rfl | 1, _ => rfl | 2, _ => rfl | 3, _ => rfl | 4, _ => rfl | 5, _ => rfl | 6, _ => rfl | j + 7, hj => exact absurd hj (by omega)) (Nat.le_of_ble_eq_true rfl) (Nat.le_of_ble_eq_true rfl) dlw_0 (fun q0 H hP hD hS => ?_)
  have hP : va_P D am_cl ([(q0, .inr (8, [.null, .null, .null, .null, .null, .null, .null]))]) H := hP
  have hD : va_D (fun q : Nat => s.heap.size ≤ q) ([(q0, .inr (8, [.null, .null, .null, .null, .null, .null, .null]))]) := hD
  refine W.widen (k := 1) (n := 7) (by omega) (by omega) ?_
  refine lv_dup hx hb dlw_3 rfl ?_
  have hPc := hP.sub (ws' := [(q0, .inr (8, [.null, .null, .null, .null, .null, .null, .null]))]) [0] rfl
  have hDc := hD.sub (ws' := [(q0, .inr (8, [.null, .null, .null, .null, .null, .null, .null]))]) [0] (by decide) rfl
  have hKc := hK.sub (tys' := [(cI, .int)]) [0] rfl
  have hFc := va_free (wc := [(q0, .inr (8, [.null, .null, .null, .null, .null, .null, .null]))]) hD hS hA [0] rfl
  refine va_callv (va_runI (As := []) (rest := [.ref q0]) ⟨hx, hb, hml, hown, hts⟩ (c_SB_init l D cI q0 H.size) (cwI 0 hts (am_GoodWs wc_SB_init) rfl rfl rfl (hts (.initialized RX8) (am_mem (i := 109) (by decide +kernel) (by decide +kernel))) (hts (.methodLink R_law 9 (⟨RX8, "<init>", "()V"⟩ : MethodName)) (am_mem (i := 129) (by decide +kernel) (by decide +kernel))) (hts (.instanceMethod (⟨RX8, "<init>", "()V"⟩ : MethodName)) (am_mem (i := 130) (by decide +kernel) (by decide +kernel))) rfl (by decide +kernel) ⟨Nat.le_of_ble_eq_true rfl, Nat.le_of_ble_eq_true rfl⟩) ⟨fun a U g mk q => by obtain ⟨q0, q1, qP, qK, qD, qN⟩ := q; exact ⟨q0, q1, qP, va_K.moved (u := U) (U := U.calling g mk a) (Vm.Alike.refl U.vm) qK, qD, am_nsm.same (u := U) rfl qN⟩, fun U hU hW => ⟨rfl, by rw [hU], by rw [hU]; exact hPc, va_K.moved hW.alike hKc, hDc.weaken (fun _ _ _ _ => trivial), hNw.warm hW⟩⟩ rfl rfl hl.1 rfl (lv_room (Nat.le_of_ble_eq_true rfl)) dlw_4 ⟨Nat.le_of_ble_eq_true rfl, Nat.le_of_ble_eq_true rfl⟩) hS (fun q _ h => hFc q h) hFc (fun u t H1 locs ht hvm hw hB hz1 hk1 hS => ?_)
  obtain ⟨f1, rfl⟩ : ∃ z, z = u := ⟨_, rfl⟩
  obtain ⟨hP1, hK1, hD1⟩ := hB
  rw [ht] at hP1
  obtain ⟨hP, hD⟩ := va_join (wr := []) (w1 := aw_SB cI q0 f1) hP hD [0] [] rfl rfl (by decide) (by decide) hk1 hFc hP1 hD1
  generalize H1 = H at hP hS ⊢
  have hP : va_P D am_cl (aw_SB cI q0 f1) H := hP
  have hD : va_D (fun q : Nat => s.heap.size ≤ q) (aw_SB cI q0 f1) := hD
  refine W.widen (k := 58) (n := 24189) (by omega) (by omega) ?_
  refine lv_astore_n (lv' := [(1, .ref q0), (0, .ref b)]) hx hb dlw_7 rfl hl (by decide) rfl (fun ls hl => ?_)
  refine va_new (ci := 9) (fs := [.null, .null, .int 0, .null, .null, .null, .null, .null, .null, .null, .null, .null, .null, .null, .int 0, .null, .null, .int 0, .int 0, .int 0, .null, .int 0, .null, .int 0, .int 0, .null, .null, .null, .null, .null, .long 0]) (C := RX9) (T := TX9) (N := 31) hx hb hts am_ws9 tyX9 tyX9_ok hown (hts (.classLink R_law 10 RX9) (am_mem (i := 1018) (by decide +kernel) (by decide +kernel))) (hts (.instantiable RX9 31) (am_mem (i := 1019) (by decide +kernel) (by decide +kernel))) (hts (.initialized RX9) (am_mem (i := 119) (by decide +kernel) (by decide +kernel))) hK hP hD hS hA rfl (fun j hj => by match j, hj with | 0, _ => rfl | 1, _ => rfl | 2, _ => rfl | 3, _ => rfl | 4, _ => rfl | 5, _ => rfl | 6, _ => rfl | 7, _ => rfl | 8, _ => rfl | 9, _ => rfl | 10, _ => rfl | 11, _ => rfl | 12, _ => rfl | 13, _ => rfl | 14, _ => rfl | 15, _ => rfl | 16, _ => rfl | 17, _ => rfl | 18, _ => rfl | 19, _ => rfl | 20, _ => rfl | 21, _ => rfl | 22, _ => rfl | 23, _ => rfl | 24, _ => rfl | 25, _ => rfl | 26, _ => rfl | 27, _ => rfl | 28, _ => rfl | 29, _ => rfl | 30, _ => rfl | j + 31, hj => exact absurd hj (by omega)) (Nat.le_of_ble_eq_true rfl) (Nat.le_of_ble_eq_true rfl) dlw_8 (fun qm H hP hD hS => ?_)
  have hP : va_P D am_cl (aw_SB cI q0 f1 ++ [(qm, .inr (9, [.null, .null, .int 0, .null, .null, .null, .null, .null, .null, .null, .null, .null, .null, .null, .int 0, .null, .null, .int 0, .int 0, .int 0, .null, .int 0, .null, .int 0, .int 0, .null, .null, .null, .null, .null, .long 0]))]) H := hP
  have hD : va_D (fun q : Nat => s.heap.size ≤ q) (aw_SB cI q0 f1 ++ [(qm, .inr (9, [.null, .null, .int 0, .null, .null, .null, .null, .null, .null, .null, .null, .null, .null, .null, .int 0, .null, .null, .int 0, .int 0, .int 0, .null, .int 0, .null, .int 0, .int 0, .null, .null, .null, .null, .null, .long 0]))]) := hD
  refine W.widen (k := 59) (n := 24220) (by omega) (by omega) ?_
  refine lv_dup hx hb dlw_11 rfl ?_
  have hPc := hP.sub (ws' := [(qm, .inr (9, [.null, .null, .int 0, .null, .null, .null, .null, .null, .null, .null, .null, .null, .null, .null, .int 0, .null, .null, .int 0, .int 0, .int 0, .null, .int 0, .null, .int 0, .int 0, .null, .null, .null, .null, .null, .long 0]))]) [58] rfl
  have hDc := hD.sub (ws' := [(qm, .inr (9, [.null, .null, .int 0, .null, .null, .null, .null, .null, .null, .null, .null, .null, .null, .null, .int 0, .null, .null, .int 0, .int 0, .int 0, .null, .int 0, .null, .int 0, .int 0, .null, .null, .null, .null, .null, .long 0]))]) [58] (by decide) rfl
  have hKc := hK.sub (tys' := [(cI, .int)]) [0] rfl
  have hFc := va_free (wc := [(qm, .inr (9, [.null, .null, .int 0, .null, .null, .null, .null, .null, .null, .null, .null, .null, .null, .null, .int 0, .null, .null, .int 0, .int 0, .int 0, .null, .int 0, .null, .int 0, .int 0, .null, .null, .null, .null, .null, .long 0]))]) hD hS hA [58] rfl
  refine va_callv (va_runI (As := []) (rest := [.ref qm]) ⟨hx, hb, hml, hown, hts⟩ (c_Mo_init l D cI qm H.size) (cwI 0 hts (am_GoodWs wc_Mo_init) rfl rfl rfl (hts (.initialized RX9) (am_mem (i := 119) (by decide +kernel) (by decide +kernel))) (hts (.methodLink R_law 12 (⟨RX9, "<init>", "()V"⟩ : MethodName)) (am_mem (i := 1020) (by decide +kernel) (by decide +kernel))) (hts (.instanceMethod (⟨RX9, "<init>", "()V"⟩ : MethodName)) (am_mem (i := 1021) (by decide +kernel) (by decide +kernel))) rfl (by decide +kernel) ⟨Nat.le_of_ble_eq_true rfl, Nat.le_of_ble_eq_true rfl⟩) ⟨fun a U g mk q => by obtain ⟨q0, q1, qP, qK, qD, qN⟩ := q; exact ⟨q0, q1, qP, va_K.moved (u := U) (U := U.calling g mk a) (Vm.Alike.refl U.vm) qK, qD, am_nsm.same (u := U) rfl qN⟩, fun U hU hW => ⟨rfl, by rw [hU], by rw [hU]; exact hPc, va_K.moved hW.alike hKc, hDc.weaken (fun _ _ _ _ => trivial), hNw.warm hW⟩⟩ rfl rfl hl.1 rfl (lv_room (Nat.le_of_ble_eq_true rfl)) dlw_12 ⟨Nat.le_of_ble_eq_true rfl, Nat.le_of_ble_eq_true rfl⟩) hS (fun q _ h => hFc q h) hFc (fun u t H1 locs ht hvm hw hB hz1 hk1 hS => ?_)
  obtain ⟨f2, rfl⟩ : ∃ z, z = u := ⟨_, rfl⟩
  obtain ⟨hP1, hK1, hD1⟩ := hB
  rw [ht] at hP1
  obtain ⟨hP, hD⟩ := va_join (wr := aw_SB cI q0 f1) (w1 := aw_Mo cI qm f2) hP hD [58] [0, 1, 2, 3, 4, 5, 6, 7, 8, 9, 10, 11, 12, 13, 14, 15, 16, 17, 18, 19, 20, 21, 22, 23, 24, 25, 26, 27, 28, 29, 30, 31, 32, 33, 34, 35, 36, 37, 38, 39, 40, 41, 42, 43, 44, 45, 46, 47, 48, 49, 50, 51, 52, 53, 54, 55, 56, 57] rfl rfl (by decide) (by decide) hk1 hFc hP1 hD1
  generalize H1 = H at hP hS ⊢
  have hP : va_P D am_cl (aw_SB cI q0 f1 ++ aw_Mo cI qm f2) H := hP
  have hD : va_D (fun q : Nat => s.heap.size ≤ q) (aw_SB cI q0 f1 ++ aw_Mo cI qm f2) := hD
  refine W.widen (k := 81) (n := 46533) (by omega) (by omega) ?_
  refine lv_astore_n (lv' := [(2, .ref qm), (1, .ref q0), (0, .ref b)]) hx hb dlw_15 rfl hl (by decide) rfl (fun ls hl => ?_)
  refine lv_iconst (v := 0) hx hb dlw_16 (by decide) ?_
  refine lv_istore_n (lv' := [(3, .int 0), (2, .ref qm), (1, .ref q0), (0, .ref b)]) hx hb dlw_17 rfl hl (by decide) rfl (fun ls hl => ?_)
  rw [← am_wd0 cI b q0 qm f1 f2 adK adV L xs] at hP hD
  obtain ⟨d, k, c', rv, hgo, hret, hrv⟩ := hpure L xs hL
  subst hrv
  have hE : am_E p s m #[Value.ref b] c t_LAW_law D cI (am_ad b q0 qm f1 f2 adK adV) z (fun q => s.heap.size ≤ q) L xs := ⟨hx, hb, hml, hown, hts, hK, hZ q0 qm f1 f2, hA⟩
  refine am_go_W (c0 := (18, [.ref 5000, .ref 0, .ref 58, .int 0], [], am_M0 L xs)) (c1 := c') hE am_law_rok am_law_cok am_law_dok (Nat.le_refl _) (Nat.le_refl _) ⟨Nat.le_of_ble_eq_true rfl, Nat.le_of_ble_eq_true rfl⟩ (am_sound l d) (fun _ _ _ _ _ => am_run_ar) k hgo ⟨hP, hD, hS, ⟨rfl, lv_mono hl (fun q hq => ?_)⟩, fun j hj => rfl, rfl⟩ (fun H' locs' LS' hR => ?_)
  · have e9 : am_asc (am_ad b q0 qm f1 f2 adK adV) z [.ref 5000, .ref 0, .ref 58, .int 0] = [(0, .ref b), (1, .ref q0), (2, .ref qm), (3, .int 0)] := rfl
    rw [e9] at hq
    simp only [List.mem_cons, List.not_mem_nil, or_false] at hq ⊢
    rcases hq with h | h | h | h
    · exact Or.inr (Or.inr (Or.inr h))
    · exact Or.inr (Or.inr (Or.inl h))
    · exact Or.inr (Or.inl h)
    · exact Or.inl h
  · obtain ⟨pc', ls', st', M'⟩ := c'
    obtain ⟨h1, h2, ty, h3, h4⟩ := hret
    dsimp only at h1 h2 ⊢
    subst h2
    have hdec : decode (am_by t_LAW_law) pc' = .ok (.ireturn, 1) := by
      have hde := (List.all_eq_true.mp am_law_dok) _ (am_as_mem h1)
      rw [Bool.and_eq_true, Bool.and_eq_true] at hde
      exact of_decide_eq_true hde.1.1
    refine va_forget (fun q hq => hR.2.2.1.2.2 q hq) ?_
    refine W.widen (k := 600000) (n := 7302250) (Nat.le_of_ble_eq_true rfl) (Nat.le_of_ble_eq_true rfl) ?_
    exact lw_ret hx hb hr hlocks hdec
end
section
/-! rules over Int: what the rows that a program lays need -/
def zi (x : Int) : Int32 := Int32.ofInt x
def zl (x : Int) : Int64 := Int64.ofInt x
abbrev zr (x : Int) : Prop := -2147483648 ≤ x ∧ x ≤ 2147483647
abbrev zlr (x : Int) : Prop := -9223372036854775808 ≤ x ∧ x ≤ 9223372036854775807
def iv (M : am_M) (a : Nat) (k : Int) : Int := (M a k.toNat).toInt
def zup (M : am_M) (a : Nat) (k v : Int) : am_M := am_up M a k.toNat (zi v)
def lv (M : am_M) (a : Nat) (k : Int) : Int := (am_lg (M a k.toNat) (M a (k.toNat + 100))).toInt
def zupl (M : am_M) (a : Nat) (k v : Int) : am_M := am_up (am_up M a k.toNat (am_hi (zl v))) a (k.toNat + 100) (am_lw (zl v))
def zcp (M : am_M) (a0 a : Nat) (sp dp n : Int) : am_M := am_cpm M a0 a sp.toNat dp.toNat n.toNat
def zand (a b : Int) : Int := (zi a &&& zi b).toInt
def zor (a b : Int) : Int := (zi a ||| zi b).toInt
def zxor (a b : Int) : Int := (zi a ^^^ zi b).toInt
def zshl (a b : Int) : Int := (zi a <<< (zi b &&& 31)).toInt
def zshr (a b : Int) : Int := (zi a >>> (zi b &&& 31)).toInt
def zushr (a b : Int) : Int := (((zi a).toUInt32 >>> ((zi b).toUInt32 &&& Int32.toUInt32 31)).toInt32).toInt
def zcmp (a b : Int) : Int := if a < b then -1 else if a = b then 0 else 1
def zbyte (q : Nat) (i : Int) : Int := ((am_sb.getD q []).getD i.toNat 0).toInt
theorem zr_toInt (x : Int32) : zr x.toInt := by
  have h1 := Int32.le_toInt x
  have h2 := Int32.toInt_lt x
  constructor <;> omega
theorem zi_of (x : Int32) : zi x.toInt = x := Int32.ofInt_toInt x
theorem zl_of (x : Int64) : zl x.toInt = x := Int64.ofInt_toInt x
theorem zi_toInt {x : Int} (h : zr x) : (zi x).toInt = x := by
  unfold zi
  rw [Int32.toInt_ofInt]
  exact Int.bmod_eq_of_le (by have := h.1; show -(2 ^ 32 / 2 : Int) ≤ x; omega) (by have := h.2; show x < (2 ^ 32 + 1) / 2; omega)
theorem zl_toInt {x : Int} (h : zlr x) : (zl x).toInt = x := by
  unfold zl
  rw [Int64.toInt_ofInt]
  exact Int.bmod_eq_of_le (by have := h.1; show -(2 ^ 64 / 2 : Int) ≤ x; omega) (by have := h.2; show x < (2 ^ 64 + 1) / 2; omega)
theorem iv_r (M : am_M) (a : Nat) (k : Int) : zr (iv M a k) := zr_toInt _
theorem lv_r (M : am_M) (a : Nat) (k : Int) : zlr (lv M a k) := by
  unfold lv
  have h1 := Int64.le_toInt (am_lg (M a k.toNat) (M a (k.toNat + 100)))
  have h2 := Int64.toInt_lt (am_lg (M a k.toNat) (M a (k.toNat + 100)))
  constructor <;> omega
theorem zi_iv (M : am_M) (a : Nat) (k : Int) : zi (iv M a k) = M a k.toNat := zi_of _
theorem zi_inj {a b : Int} (ha : zr a) (hb : zr b) : zi a = zi b ↔ a = b := by
  constructor
  · intro h
    have := congrArg Int32.toInt h
    rwa [zi_toInt ha, zi_toInt hb] at this
  · rintro rfl; rfl
theorem zi_lt {a b : Int} (ha : zr a) (hb : zr b) : zi a < zi b ↔ a < b := by
  rw [Int32.lt_iff_toInt_lt, zi_toInt ha, zi_toInt hb]
theorem zi_add (a b : Int) : zi a + zi b = zi (a + b) := (Int32.ofInt_add a b).symm
theorem zi_sub (a b : Int) : zi a - zi b = zi (a - b) := (Int32.ofInt_sub a b).symm
theorem zi_mul (a b : Int) : zi a * zi b = zi (a * b) := (Int32.ofInt_mul a b).symm
theorem zl_add (a b : Int) : zl a + zl b = zl (a + b) := (Int64.ofInt_add a b).symm
theorem zl_sub (a b : Int) : zl a - zl b = zl (a - b) := (Int64.ofInt_sub a b).symm
theorem zl_mul (a b : Int) : zl a * zl b = zl (a * b) := (Int64.ofInt_mul a b).symm
theorem zlr_of {a : Int} (h : zr a) : zlr a := ⟨by have := h.1; omega, by have := h.2; omega⟩
theorem zr_zcmp (a b : Int) : zr (zcmp a b) := by
  unfold zcmp
  split
  · decide
  · split <;> decide
theorem zr_min {a b : Int} (ha : zr a) (hb : zr b) : zr (min a b) := by
  obtain ⟨h1, h2⟩ := ha
  obtain ⟨h3, h4⟩ := hb
  constructor <;> omega
theorem zr_div {a b : Int} (h0 : 0 ≤ a) (h1 : 0 < b) (ha : zr a) (_ : zr b) : zr (a / b) := by
  have h2 : 0 ≤ a / b := Int.ediv_nonneg h0 (Int.le_of_lt h1)
  have h3 : a / b ≤ a := Int.ediv_le_self b h0
  have := ha.2
  constructor <;> omega
theorem zr_rem {a b : Int} (_ : 0 ≤ a) (h1 : 0 < b) (_ : zr a) (hb : zr b) : zr (a % b) := by
  have h2 : 0 ≤ a % b := Int.emod_nonneg a (by omega)
  have h3 : a % b < b := Int.emod_lt_of_pos a h1
  have := hb.2
  constructor <;> omega
theorem zr_tdiv {a b : Int} (hb : 1 < b ∧ zr b) (ha : zr a) : zr (Int.tdiv a b) := by
  have h := Int.natAbs_tdiv_le_natAbs a b
  have h1 := ha.1
  have h2 := ha.2
  have h5 : (Int.tdiv a b).natAbs = a.natAbs / b.natAbs := Int.natAbs_tdiv a b
  have h6 : a.natAbs / b.natAbs ≤ a.natAbs / 2 := Nat.div_le_div_left (by omega) (by omega)
  constructor <;> omega
theorem zr_trem {a b : Int} (hb : 1 < b ∧ zr b) (ha : zr a) : zr (Int.tmod a b) := by
  have h1 := ha.1
  have h2 := ha.2
  have h5 : (Int.tmod a b).natAbs = a.natAbs % b.natAbs := Int.natAbs_tmod a b
  have h6 : a.natAbs % b.natAbs < b.natAbs := Nat.mod_lt _ (by omega)
  have h7 := hb.2.2
  constructor <;> omega
theorem zi_tdiv {a b : Int} (hb : 1 < b ∧ zr b) (ha : zr a) : zi a / zi b = zi (Int.tdiv a b) := by
  apply Int32.toInt_inj.mp
  rw [Int32.toInt_div, zi_toInt ha, zi_toInt hb.2, zi_toInt (zr_tdiv hb ha)]
  have := zr_tdiv hb ha
  exact Int.bmod_eq_of_le (by have := this.1; omega) (by have := this.2; omega)
theorem zi_trem {a b : Int} (hb : 1 < b ∧ zr b) (ha : zr a) : zi a - zi a / zi b * zi b = zi (Int.tmod a b) := by
  rw [zi_tdiv hb ha, zi_mul, zi_sub]
  congr 1
  have := Int.mul_tdiv_add_tmod a b
  have h2 : Int.tdiv a b * b = b * Int.tdiv a b := Int.mul_comm ..
  omega
theorem zi_div1 (a : Int) (ha : zr a) (h0 : 0 ≤ a) {b : Int} (h1 : 0 < b) (hb : zr b) : zi a / zi b = zi (a / b) := by
  apply Int32.toInt_inj.mp
  rw [Int32.toInt_div, zi_toInt ha, zi_toInt hb, zi_toInt (zr_div h0 h1 ha hb), Int.tdiv_eq_ediv_of_nonneg h0]
  have := zr_div h0 h1 ha hb
  exact Int.bmod_eq_of_le (by have := this.1; omega) (by have := this.2; omega)
theorem zi_ne0 {b : Int} (h1 : 0 < b) (hb : zr b) : ¬ zi b = 0 := by
  intro h
  have : b = 0 := (zi_inj hb (by decide)).mp (h.trans rfl)
  omega
theorem zi_nb {e : Int} (h : e = 0 ∨ e = 1) : narrow .boolean (.int (zi e)) = .int (zi e) := by
  rcases h with rfl | rfl <;> rfl
theorem zi_clamp {i : Int} (h0 : 0 ≤ i) (h1 : i ≤ 2147483647) : (zi i).toNatClampNeg = i.toNat := by
  show (zi i).toInt.toNat = i.toNat
  rw [zi_toInt ⟨by omega, h1⟩]
theorem zi_in {i : Int} {n : Nat} (hn : Nat.ble n 100000 = true) (h : 0 ≤ i ∧ i < n) : ¬ (zi i < 0 ∨ n ≤ (zi i).toNatClampNeg) := by
  have hn := Nat.le_of_ble_eq_true hn
  have hi : zr i := ⟨by omega, by omega⟩
  rw [zi_clamp h.1 hi.2]
  rintro (h2 | h2)
  · have : i < 0 := (zi_lt hi (by decide)).mp h2
    omega
  · omega
section AMXZ
variable {t : am_T} {pc n : Nat} {ls st : List Value} {M : am_M} {Q : Option Value → am_M → Prop} {a : Nat} {i x y : Int} {c : am_C}
theorem am_step_of {i : Instr} {n : Nat} {c : am_C} (h : am_as (am_cd t) c.1 = some (i, n)) : am_step t c = am_ex (am_ow t) i n c.1 c.2.1 c.2.2.1 c.2.2.2 := by
  unfold am_step
  rw [h]
theorem am_xrd (n a : Nat) (k : Int) (h : am_steps t n c = some (pc, ls, .int (M a k.toNat) :: st, M)) (kk : am_x t (pc, ls, .int (zi (iv M a k)) :: st, M) Q) : am_x t c Q := by
  refine am_xn n h ?_
  rwa [zi_iv] at kk
theorem am_xlrd (n a : Nat) (k : Int) (h : am_steps t n c = some (pc, ls, .long (am_lg (M a k.toNat) (M a (k.toNat + 100))) :: st, M)) (kk : am_x t (pc, ls, .long (zl (lv M a k)) :: st, M) Q) : am_x t c Q := by
  refine am_xn n h ?_
  unfold lv at kk
  rwa [zl_of] at kk
theorem am_xiadd (n : Nat) (a b : Int) (h : am_steps t n c = some (pc, ls, .int (zi a + zi b) :: st, M)) (kk : am_x t (pc, ls, .int (zi (a + b)) :: st, M) Q) : am_x t c Q := am_xn n h (by rw [zi_add]; exact kk)
theorem am_xisub (n : Nat) (a b : Int) (h : am_steps t n c = some (pc, ls, .int (zi a - zi b) :: st, M)) (kk : am_x t (pc, ls, .int (zi (a - b)) :: st, M) Q) : am_x t c Q := am_xn n h (by rw [zi_sub]; exact kk)
theorem am_ximul (n : Nat) (a b : Int) (h : am_steps t n c = some (pc, ls, .int (zi a * zi b) :: st, M)) (kk : am_x t (pc, ls, .int (zi (a * b)) :: st, M) Q) : am_x t c Q := am_xn n h (by rw [zi_mul]; exact kk)
theorem am_xladd (n : Nat) (a b : Int) (h : am_steps t n c = some (pc, ls, .long (zl a + zl b) :: st, M)) (kk : am_x t (pc, ls, .long (zl (a + b)) :: st, M) Q) : am_x t c Q := am_xn n h (by rw [zl_add]; exact kk)
theorem am_xlsub (n : Nat) (a b : Int) (h : am_steps t n c = some (pc, ls, .long (zl a - zl b) :: st, M)) (kk : am_x t (pc, ls, .long (zl (a - b)) :: st, M) Q) : am_x t c Q := am_xn n h (by rw [zl_sub]; exact kk)
theorem am_xlmul (n : Nat) (a b : Int) (h : am_steps t n c = some (pc, ls, .long (zl a * zl b) :: st, M)) (kk : am_x t (pc, ls, .long (zl (a * b)) :: st, M) Q) : am_x t c Q := am_xn n h (by rw [zl_mul]; exact kk)
theorem am_xbit (n : Nat) (v : Int32) (h : am_steps t n c = some (pc, ls, .int v :: st, M)) (kk : am_x t (pc, ls, .int (zi v.toInt) :: st, M) Q) : am_x t c Q := am_xn n h (by rw [zi_of] at kk; exact kk)
theorem am_xi2l (n : Nat) (a : Int) (ha : zr a) (h : am_steps t n c = some (pc, ls, .long (zi a).toInt64 :: st, M)) (kk : am_x t (pc, ls, .long (zl a) :: st, M) Q) : am_x t c Q := am_xn n h (by
  have : (zi a).toInt64 = zl a := by
    apply Int64.toInt_inj.mp
    rw [Int32.toInt_toInt64, zi_toInt ha, zl_toInt (zlr_of ha)]
  rw [this]; exact kk)
theorem am_xlcmp (n : Nat) (a b : Int) (ha : zlr a) (hb : zlr b) (h : am_steps t n c = some (pc, ls, .int (lg_cmp (zl a) (zl b)) :: st, M)) (kk : am_x t (pc, ls, .int (zi (zcmp a b)) :: st, M) Q) : am_x t c Q := am_xn n h (by
  have : lg_cmp (zl a) (zl b) = zi (zcmp a b) := by
    unfold lg_cmp zcmp
    have h1 : zl a < zl b ↔ a < b := by rw [Int64.lt_iff_toInt_lt, zl_toInt ha, zl_toInt hb]
    have h2 : zl b < zl a ↔ b < a := by rw [Int64.lt_iff_toInt_lt, zl_toInt ha, zl_toInt hb]
    have h3 : zl a = zl b ↔ a = b := by rw [← Int64.toInt_inj, zl_toInt ha, zl_toInt hb]
    simp only [h1, h2, h3, gt_iff_lt]
    repeat' split
    all_goals first | rfl | omega
  rw [this]; exact kk)
theorem am_xald (hc : am_as (am_cd t) pc = some (.iaload, 1)) (ha : am_al a = some n) (hn : Nat.ble n 100000 = true) (hg : 0 ≤ i ∧ i < n) (k : am_x t (pc + 1, ls, .int (zi (iv M a i)) :: st, M) Q) : am_x t (pc, ls, .int (zi i) :: .ref a :: st, M) Q := by
  refine am_x1 ?_ k
  rw [am_step_of hc]
  dsimp only [am_ex, am_il]
  rw [ha]
  dsimp only
  rw [if_neg (zi_in hn hg), zi_iv, zi_clamp hg.1 (by have := Nat.le_of_ble_eq_true hn; omega)]
theorem am_xsld (hc : am_as (am_cd t) pc = some (.iaload, 1)) (hg : 0 ≤ i ∧ i < iv M 5001 0) (k : am_x t (pc + 1, ls, .int (zi (iv M 5000 i)) :: st, M) Q) : am_x t (pc, ls, .int (zi i) :: .ref 5000 :: st, M) Q := by
  refine am_x1 ?_ k
  rw [am_step_of hc]
  dsimp only [am_ex, am_il]
  rw [show am_al 5000 = none from by decide +kernel]
  dsimp only
  rw [show Nat.beq 5000 5000 = true from rfl]
  dsimp only [cond_true]
  have h5 := iv_r M 5001 0
  have hi : zr i := ⟨by omega, by have := h5.2; omega⟩
  have e0 : (M 5001 0).toNatClampNeg = (iv M 5001 0).toNat := rfl
  have hq : ¬ (zi i < 0 ∨ (M 5001 0).toNatClampNeg ≤ (zi i).toNatClampNeg) := by
    rw [zi_clamp hg.1 hi.2, e0]
    rintro (h2 | h2)
    · have : i < 0 := (zi_lt hi (by decide)).mp h2
      omega
    · omega
  rw [if_neg hq, zi_iv, zi_clamp hg.1 hi.2]
theorem am_xbald {q : Nat} (hc : am_as (am_cd t) pc = some (.baload, 1)) (hn : am_sl[q]? = some n) (hb : Nat.ble n 100000 = true) (hg : 0 ≤ i ∧ i < n) (k : am_x t (pc + 1, ls, .int (zi (zbyte q i)) :: st, M) Q) : am_x t (pc, ls, .int (zi i) :: .ref (6100 + q) :: st, M) Q := by
  have hq : q < 9 := (List.getElem?_eq_some_iff.mp hn).1
  refine am_x1 ?_ k
  rw [am_step_of hc]
  dsimp only [am_ex, am_bl]
  have h1 : Nat.ble 6100 (6100 + q) = true := Nat.ble_eq.mpr (by omega)
  have h2 : Nat.blt (6100 + q) 6109 = true := Nat.ble_eq.mpr (by omega)
  rw [h1, h2, show 6100 + q - 6100 = q by omega]
  have h3 : am_sl.getD q 0 = n := by rw [List.getD_eq_getElem?_getD, hn]; rfl
  rw [h3]
  show (match (if zi i < 0 ∨ n ≤ (zi i).toNatClampNeg then (none : Option Int32) else some ((am_sb.getD q []).getD (zi i).toNatClampNeg 0)) with
      | some x => some (pc + 1, ls, Value.int x :: st, M)
      | none => none) = _
  rw [if_neg (zi_in hb hg), zi_clamp hg.1 (by have := Nat.le_of_ble_eq_true hb; omega)]
  unfold zbyte
  rw [zi_of]
theorem am_xast (hc : am_as (am_cd t) pc = some (.iastore, 1)) (ha : am_al a = some n) (hn : Nat.ble n 100000 = true) (hg : 0 ≤ i ∧ i < n) (k : am_x t (pc + 1, ls, st, zup M a i x) Q) : am_x t (pc, ls, .int (zi x) :: .int (zi i) :: .ref a :: st, M) Q := by
  refine am_x1 ?_ k
  rw [am_step_of hc]
  dsimp only [am_ex, am_is]
  rw [ha]
  dsimp only
  rw [if_neg (zi_in hn hg), zi_clamp hg.1 (by have := Nat.le_of_ble_eq_true hn; omega)]
  rfl
theorem am_xdiv (hc : am_as (am_cd t) pc = some (.idiv, 1)) (h0 : 0 ≤ x) (h1 : 0 < y) (hx : zr x) (hy : zr y) (k : am_x t (pc + 1, ls, .int (zi (x / y)) :: st, M) Q) : am_x t (pc, ls, .int (zi y) :: .int (zi x) :: st, M) Q := by
  refine am_x1 ?_ k
  rw [am_step_of hc]
  dsimp only [am_ex]
  rw [if_neg (zi_ne0 h1 hy), zi_div1 x hx h0 h1 hy]
theorem am_xrem (hc : am_as (am_cd t) pc = some (.irem, 1)) (h0 : 0 ≤ x) (h1 : 0 < y) (hx : zr x) (hy : zr y) (k : am_x t (pc + 1, ls, .int (zi (x % y)) :: st, M) Q) : am_x t (pc, ls, .int (zi y) :: .int (zi x) :: st, M) Q := by
  refine am_x1 ?_ k
  rw [am_step_of hc]
  dsimp only [am_ex]
  rw [if_neg (zi_ne0 h1 hy), zi_div1 x hx h0 h1 hy, zi_mul, zi_sub]
  have h2 := Int.mul_ediv_add_emod x y
  have h3 : x / y * y = y * (x / y) := Int.mul_comm ..
  rw [show x - x / y * y = x % y by omega]
theorem am_xtdiv (hc : am_as (am_cd t) pc = some (.idiv, 1)) (h1 : 1 < y ∧ zr y) (hx : zr x) (k : am_x t (pc + 1, ls, .int (zi (Int.tdiv x y)) :: st, M) Q) : am_x t (pc, ls, .int (zi y) :: .int (zi x) :: st, M) Q := by
  refine am_x1 ?_ k
  rw [am_step_of hc]
  dsimp only [am_ex]
  rw [if_neg (zi_ne0 (by omega) h1.2), zi_tdiv h1 hx]
theorem am_xtrem (hc : am_as (am_cd t) pc = some (.irem, 1)) (h1 : 1 < y ∧ zr y) (hx : zr x) (k : am_x t (pc + 1, ls, .int (zi (Int.tmod x y)) :: st, M) Q) : am_x t (pc, ls, .int (zi y) :: .int (zi x) :: st, M) Q := by
  refine am_x1 ?_ k
  rw [am_step_of hc]
  dsimp only [am_ex]
  rw [if_neg (zi_ne0 (by omega) h1.2), zi_trem h1 hx]
theorem am_xswt {d lo hi : Int} {os : Array Int} (hc : am_as (am_cd t) pc = some (.tableswitch d lo hi os, n)) (v : Int) (hx : (zi x).toInt = v) (tg : Nat) (ht : am_tgo pc (am_sw d lo hi os v) = some tg) (k : am_x t (tg, ls, st, M) Q) : am_x t (pc, ls, .int (zi x) :: st, M) Q := by
  refine am_x1 ?_ k
  rw [am_step_of hc]
  dsimp only [am_ex]
  rw [hx, ht]
theorem am_xswd {d lo hi : Int} {os : Array Int} (hc : am_as (am_cd t) pc = some (.tableswitch d lo hi os, n)) (hr : zr x) (hx : x < lo ∨ hi < x) (tg : Nat) (ht : am_tgo pc d = some tg) (k : am_x t (tg, ls, st, M) Q) : am_x t (pc, ls, .int (zi x) :: st, M) Q := by
  refine am_x1 ?_ k
  rw [am_step_of hc]
  dsimp only [am_ex]
  rw [zi_toInt hr]
  have : am_sw d lo hi os x = d := by
    unfold am_sw
    rcases hx with h | h
    · rw [if_pos h]
    · by_cases h2 : x < lo
      · rw [if_pos h2]
      · rw [if_neg h2, if_pos h]
  rw [this, ht]
theorem am_xswl {d : Int} {ps : Array (Int × Int)} (hc : am_as (am_cd t) pc = some (.lookupswitch d ps, n)) (v : Int) (hx : (zi x).toInt = v) (tg : Nat) (ht : am_tgo pc (Op.lookupswitch.offset ps.toList d v) = some tg) (k : am_x t (tg, ls, st, M) Q) : am_x t (pc, ls, .int (zi x) :: st, M) Q := by
  refine am_x1 ?_ k
  rw [am_step_of hc]
  dsimp only [am_ex]
  rw [hx, ht]
theorem am_xswld {d : Int} {ps : Array (Int × Int)} (hc : am_as (am_cd t) pc = some (.lookupswitch d ps, n)) (hr : zr x) (hx : ∀ q ∈ ps.toList, ¬ x = q.1) (tg : Nat) (ht : am_tgo pc d = some tg) (k : am_x t (tg, ls, st, M) Q) : am_x t (pc, ls, .int (zi x) :: st, M) Q := by
  refine am_x1 ?_ k
  rw [am_step_of hc]
  dsimp only [am_ex]
  rw [zi_toInt hr]
  have : Op.lookupswitch.offset ps.toList d x = d := Op.lookupswitch.offset_none (List.find?_eq_none.mpr (fun q hq e => hx q hq (by have := eq_of_beq e; exact this.symm)))
  rw [this, ht]
theorem am_xpfb {k : Nat} {ci s : Nat} {fs : List Nat} (hc : am_as (am_cd t) pc = some (.putfield k, 3)) (hf : am_fl (am_ow t) k = some (ci, s)) (hl : am_LL[a]? = some (.inr (ci, fs))) (hs : fs[s]? = some 2) (hv : x = 0 ∨ x = 1) (kk : am_x t (pc + 3, ls, st, zup M a s x) Q) : am_x t (pc, ls, .int (zi x) :: .ref a :: st, M) Q := by
  refine am_x1 ?_ kk
  rw [am_step_of hc]
  dsimp only [am_ex, am_pf]
  rw [hf]
  dsimp only
  rw [hl]
  dsimp only
  rw [show Nat.beq ci ci = true from Nat.beq_refl ci, hs]
  have : zi x = 0 ∨ zi x = 1 := by
    rcases hv with h | h
    · exact Or.inl (by rw [h]; rfl)
    · exact Or.inr (by rw [h]; rfl)
  show (match (if zi x = 0 ∨ zi x = 1 then some (am_up M a s (zi x)) else none) with
      | some M' => some (pc + 3, ls, st, M')
      | none => none) = _
  rw [if_pos this]
  rfl
theorem am_xlt {a b : Int} {p q : Nat} (ha : zr a) (hb : zr b) (ht : a < b → am_x t (p, ls, st, M) Q) (hf : b ≤ a → am_x t (q, ls, st, M) Q) : am_x t (if zi a < zi b then p else q, ls, st, M) Q := by
  by_cases h : a < b
  · rw [if_pos ((zi_lt ha hb).mpr h)]; exact ht h
  · rw [if_neg (fun q => h ((zi_lt ha hb).mp q))]; exact hf (by omega)
theorem am_xeq {a b : Int} {p q : Nat} (ha : zr a) (hb : zr b) (ht : a = b → am_x t (p, ls, st, M) Q) (hf : ¬ a = b → am_x t (q, ls, st, M) Q) : am_x t (if zi a = zi b then p else q, ls, st, M) Q := by
  by_cases h : a = b
  · rw [if_pos ((zi_inj ha hb).mpr h)]; exact ht h
  · rw [if_neg (fun q => h ((zi_inj ha hb).mp q))]; exact hf h
theorem am_xmin (k : Nat) (hc : am_as (am_cd t) pc = some (.invokestatic k, 3)) (hm : am_mnl (am_ow t) k = true) (hs : (st.map fun v => v.category).sum ≤ 8) (hx : zr x) (hy : zr y) (kk : am_x t (pc + 3, ls, .int (zi (min x y)) :: st, M) Q) : am_x t (pc, ls, .int (zi y) :: .int (zi x) :: st, M) Q := by
  refine am_xcp (c1 := (pc + 3, ls, .int (zi (min x y)) :: st, M)) (Or.inr (Or.inl ⟨k, zi x, zi y, st, hc, hm, rfl, hs, ?_⟩)) kk
  have : (if zi y < zi x then zi y else zi x) = zi (min x y) := by
    by_cases h : y < x
    · rw [if_pos ((zi_lt hy hx).mpr h), show min x y = y by omega]
    · rw [if_neg (fun q => h ((zi_lt hy hx).mp q)), show min x y = x by omega]
  rw [this]
theorem am_xacp {n0 n1 a0 : Nat} {sp dp nn : Int} (k : Nat) (hc : am_as (am_cd t) pc = some (.invokestatic k, 3)) (hk : am_ac (am_ow t) k = true) (h0 : am_al a0 = some n0) (h1 : am_al a = some n1) (b0 : Nat.ble n0 100000 = true) (b1 : Nat.ble n1 100000 = true) (hg : 0 ≤ sp ∧ 0 ≤ dp ∧ 0 ≤ nn ∧ sp + nn ≤ n0 ∧ dp + nn ≤ n1) (kk : am_x t (pc + 3, ls, [], zcp M a0 a sp dp nn) Q) : am_x t (pc, ls, [.int (zi nn), .int (zi dp), .ref a, .int (zi sp), .ref a0], M) Q := by
  obtain ⟨g1, g2, g3, g4, g5⟩ := hg
  have b0 := Nat.le_of_ble_eq_true b0
  have b1 := Nat.le_of_ble_eq_true b1
  have e1 := zi_clamp g1 (by omega)
  have e2 := zi_clamp g2 (by omega)
  have e3 := zi_clamp g3 (by omega)
  have nz : ∀ {z : Int}, 0 ≤ z → z ≤ 2147483647 → ¬ zi z < 0 := by
    intro z hz hz2 h
    have : z < 0 := (zi_lt ⟨by omega, hz2⟩ (by decide)).mp h
    omega
  refine am_xcp (c1 := (pc + 3, ls, [], zcp M a0 a sp dp nn)) (Or.inl ⟨k, a0, a, n0, n1, zi sp, zi dp, zi nn, hc, hk, rfl, h0, h1, nz g1 (by omega), nz g2 (by omega), nz g3 (by omega), by rw [e1, e3]; omega, by rw [e2, e3]; omega, ?_⟩) kk
  rw [e1, e2, e3]
  rfl
end AMXZ
theorem iv_zup (M : am_M) (a : Nat) {k v : Int} (b : Nat) {j : Int} (hk : 0 ≤ k) (hj : 0 ≤ j) (hv : zr v) : iv (zup M a k v) b j = if b = a ∧ j = k then v else iv M b j := by
  unfold iv zup am_up
  by_cases hb : b = a
  · by_cases h : j = k
    · subst h; rw [if_pos hb, if_pos rfl, if_pos ⟨hb, rfl⟩, zi_toInt hv]
    · rw [if_pos hb, if_neg (by omega), if_neg (fun q => h q.2)]
  · rw [if_neg hb, if_neg (fun q => hb q.1)]
theorem iv_zup_ne (M : am_M) {a : Nat} {k v : Int} {b : Nat} (j : Int) (hb : b ≠ a) : iv (zup M a k v) b j = iv M b j := by
  unfold iv zup am_up
  rw [if_neg hb]
theorem zup_ne (M : am_M) {a : Nat} {k v : Int} {b : Nat} (j : Nat) (hb : b ≠ a) : zup M a k v b j = M b j := by
  unfold zup am_up
  rw [if_neg hb]
theorem iv_zcp (M : am_M) (a0 a : Nat) {sp dp n : Int} (b : Nat) {j : Int} (h0 : 0 ≤ sp) (h1 : 0 ≤ dp) (h2 : 0 ≤ n) (hj : 0 ≤ j) : iv (zcp M a0 a sp dp n) b j = if b = a ∧ dp ≤ j ∧ j < dp + n then iv M a0 (sp + (j - dp)) else iv M b j := by
  unfold iv zcp am_cpm va_cpy
  by_cases hb : b = a
  · rw [if_pos hb]
    by_cases h : dp ≤ j ∧ j < dp + n
    · rw [if_pos (by omega), if_pos ⟨hb, h⟩, show sp.toNat + (j.toNat - dp.toNat) = (sp + (j - dp)).toNat by omega]
    · rw [if_neg (by omega), if_neg (fun q => h q.2), hb]
  · rw [if_neg hb, if_neg (fun q => hb q.1)]
theorem lv_zupl (M : am_M) (a : Nat) (k v : Int) : zl (lv (zupl M a k v) a k) = zl v := by
  unfold lv zupl
  rw [zl_of, am_up_self, am_up_ne _ _ _ _ (by omega), am_up_self, am_lg_hl]
end
section
/-! leaves: rows, pages, tests of numbers -/
def zfl (M : am_M) (a n : Nat) (v : Int) : am_M := fun b j => if b = a ∧ j < n then zi v else M b j
theorem iv_zfl (M : am_M) (a n : Nat) {v : Int} (b : Nat) {j : Int} (hj : 0 ≤ j) (hv : zr v) : iv (zfl M a n v) b j = if b = a ∧ j < n then v else iv M b j := by
  unfold iv zfl
  by_cases h : b = a ∧ j < n
  · rw [if_pos ⟨h.1, by omega⟩, if_pos h, zi_toInt hv]
  · rw [if_neg (by rintro ⟨h1, h2⟩; exact h ⟨h1, by omega⟩), if_neg h]
def zi2c (a : Int) : Int := (((zi a).toUInt32 % 65536).toInt32).toInt
set_option maxRecDepth 100000 in
theorem vc_get_5 (i : Int) (M : am_M) (Q : Option Value → am_M → Prop) (hv : zr i ∧ ((i < 0 → Q (some (.int (zi 0))) M) ∧ (0 ≤ i → (i < 520 → (0 ≤ i ∧ i < 520) ∧ (Q (some (.int (zi (iv M 6 i)))) M)) ∧ (520 ≤ i → Q (some (.int (zi 0))) M)))) : am_x t_Row_get (0, am_ent (am_mL t_Row_get) [.ref 5, .int (zi i)], [], M) Q := by
  refine am_xn 0 (c1 := (0, [.ref 5, .int (zi i)], [], M)) rfl ?_
  obtain ⟨r1, hv⟩ := hv
  refine am_xn 2 (c1 := (if zi i < zi 0 then 22 else 4, [.ref 5, .int (zi i)], [], M)) rfl (am_xlt r1 (by decide) (fun h => ?_) (fun h => ?_))
  · replace hv := hv.1 h
    refine am_xn 1 (c1 := (23, [.ref 5, .int (zi i)], [.int (zi 0)], M)) rfl ?_
    exact am_xr (some (.int (zi 0))) ⟨rfl, rfl, .int, rfl, rfl⟩ hv
  · replace hv := hv.2 h
    refine am_xn 5 (c1 := (if zi i < zi 520 then 13 else 22, [.ref 5, .int (zi i)], [], M)) rfl (am_xlt r1 (by decide) (fun h => ?_) (fun h => ?_))
    · replace hv := hv.1 h
      obtain ⟨r2, hv⟩ := hv
      refine am_xn 3 (c1 := (18, [.ref 5, .int (zi i)], [.int (zi i), .ref 6], M)) rfl ?_
      refine am_xald rfl rfl rfl r2 ?_
      refine am_xn 0 (c1 := (19, [.ref 5, .int (zi i)], [.int (zi (iv M 6 i))], M)) rfl ?_
      refine am_xn 1 (c1 := (23, [.ref 5, .int (zi i)], [.int (zi (iv M 6 i))], M)) rfl ?_
      exact am_xr (some (.int (zi (iv M 6 i)))) ⟨rfl, rfl, .int, rfl, rfl⟩ hv
    · replace hv := hv.2 h
      refine am_xn 1 (c1 := (23, [.ref 5, .int (zi i)], [.int (zi 0)], M)) rfl ?_
      exact am_xr (some (.int (zi 0))) ⟨rfl, rfl, .int, rfl, rfl⟩ hv
theorem sp_get_5 (M : am_M) (i : Int) (g : 0 ≤ i ∧ i < 520) : am_call t_Row_get [.ref 5, .int (zi i)] M (some (.int (zi (iv M 6 i)))) M := by
  refine am_call_of ⟨Nat.le_of_ble_eq_true rfl, rfl⟩ (vc_get_5 i M _ ?_)
  (repeat' (first | apply And.intro | intro _)) <;> (first | rfl | omega | (split <;> (first | rfl | omega)))
set_option maxRecDepth 100000 in
theorem vc_set_5 (i : Int) (v : Int) (M : am_M) (Q : Option Value → am_M → Prop) (hv : zr i ∧ ((i < 0 → Q none M) ∧ (0 ≤ i → (i < 520 → (0 ≤ i ∧ i < 520) ∧ (∀ M2, M2 = zup M 6 i v → Q none M2)) ∧ (520 ≤ i → Q none M)))) : am_x t_Row_set (0, am_ent (am_mL t_Row_set) [.ref 5, .int (zi i), .int (zi v)], [], M) Q := by
  refine am_xn 0 (c1 := (0, [.ref 5, .int (zi i), .int (zi v)], [], M)) rfl ?_
  obtain ⟨r1, hv⟩ := hv
  refine am_xn 2 (c1 := (if zi i < zi 0 then 20 else 4, [.ref 5, .int (zi i), .int (zi v)], [], M)) rfl (am_xlt r1 (by decide) (fun h => ?_) (fun h => ?_))
  · replace hv := hv.1 h
    exact am_xr none ⟨rfl, rfl, rfl⟩ hv
  · replace hv := hv.2 h
    refine am_xn 5 (c1 := (if zi i < zi 520 then 13 else 20, [.ref 5, .int (zi i), .int (zi v)], [], M)) rfl (am_xlt r1 (by decide) (fun h => ?_) (fun h => ?_))
    · replace hv := hv.1 h
      obtain ⟨r3, hv⟩ := hv
      refine am_xn 4 (c1 := (19, [.ref 5, .int (zi i), .int (zi v)], [.int (zi v), .int (zi i), .ref 6], M)) rfl ?_
      refine am_xast rfl rfl rfl r3 ?_
      refine am_xn 0 (c1 := (20, [.ref 5, .int (zi i), .int (zi v)], [], zup M 6 i v)) rfl ?_
      obtain ⟨M2, eM2⟩ : ∃ m, m = zup M 6 i v := ⟨_, rfl⟩
      replace hv := hv M2 eM2
      rw [← eM2]
      exact am_xr none ⟨rfl, rfl, rfl⟩ hv
    · replace hv := hv.2 h
      exact am_xr none ⟨rfl, rfl, rfl⟩ hv
theorem sp_set_5 (M : am_M) (i : Int) (v : Int) (g : 0 ≤ i ∧ i < 520) : am_call t_Row_set [.ref 5, .int (zi i), .int (zi v)] M (none) (zup M 6 i v) := by
  refine am_call_of ⟨Nat.le_of_ble_eq_true rfl, rfl⟩ (vc_set_5 i v M _ ?_)
  have := g.1
  (repeat' (first | apply And.intro | intro _)) <;> (first | rfl | omega | (split <;> (first | rfl | omega)))
set_option maxRecDepth 100000 in
theorem vc_get_10 (i : Int) (M : am_M) (Q : Option Value → am_M → Prop) (hv : zr i ∧ ((i < 0 → Q (some (.int (zi 0))) M) ∧ (0 ≤ i → (i < 1605 → (0 ≤ i ∧ i < 1605) ∧ (Q (some (.int (zi (iv M 11 i)))) M)) ∧ (1605 ≤ i → Q (some (.int (zi 0))) M)))) : am_x t_Row_get (0, am_ent (am_mL t_Row_get) [.ref 10, .int (zi i)], [], M) Q := by
  refine am_xn 0 (c1 := (0, [.ref 10, .int (zi i)], [], M)) rfl ?_
  obtain ⟨r1, hv⟩ := hv
  refine am_xn 2 (c1 := (if zi i < zi 0 then 22 else 4, [.ref 10, .int (zi i)], [], M)) rfl (am_xlt r1 (by decide) (fun h => ?_) (fun h => ?_))
  · replace hv := hv.1 h
    refine am_xn 1 (c1 := (23, [.ref 10, .int (zi i)], [.int (zi 0)], M)) rfl ?_
    exact am_xr (some (.int (zi 0))) ⟨rfl, rfl, .int, rfl, rfl⟩ hv
  · replace hv := hv.2 h
    refine am_xn 5 (c1 := (if zi i < zi 1605 then 13 else 22, [.ref 10, .int (zi i)], [], M)) rfl (am_xlt r1 (by decide) (fun h => ?_) (fun h => ?_))
    · replace hv := hv.1 h
      obtain ⟨r2, hv⟩ := hv
      refine am_xn 3 (c1 := (18, [.ref 10, .int (zi i)], [.int (zi i), .ref 11], M)) rfl ?_
      refine am_xald rfl rfl rfl r2 ?_
      refine am_xn 0 (c1 := (19, [.ref 10, .int (zi i)], [.int (zi (iv M 11 i))], M)) rfl ?_
      refine am_xn 1 (c1 := (23, [.ref 10, .int (zi i)], [.int (zi (iv M 11 i))], M)) rfl ?_
      exact am_xr (some (.int (zi (iv M 11 i)))) ⟨rfl, rfl, .int, rfl, rfl⟩ hv
    · replace hv := hv.2 h
      refine am_xn 1 (c1 := (23, [.ref 10, .int (zi i)], [.int (zi 0)], M)) rfl ?_
      exact am_xr (some (.int (zi 0))) ⟨rfl, rfl, .int, rfl, rfl⟩ hv
theorem sp_get_10 (M : am_M) (i : Int) (g : 0 ≤ i ∧ i < 1605) : am_call t_Row_get [.ref 10, .int (zi i)] M (some (.int (zi (iv M 11 i)))) M := by
  refine am_call_of ⟨Nat.le_of_ble_eq_true rfl, rfl⟩ (vc_get_10 i M _ ?_)
  (repeat' (first | apply And.intro | intro _)) <;> (first | rfl | omega | (split <;> (first | rfl | omega)))
set_option maxRecDepth 100000 in
theorem vc_set_10 (i : Int) (v : Int) (M : am_M) (Q : Option Value → am_M → Prop) (hv : zr i ∧ ((i < 0 → Q none M) ∧ (0 ≤ i → (i < 1605 → (0 ≤ i ∧ i < 1605) ∧ (∀ M2, M2 = zup M 11 i v → Q none M2)) ∧ (1605 ≤ i → Q none M)))) : am_x t_Row_set (0, am_ent (am_mL t_Row_set) [.ref 10, .int (zi i), .int (zi v)], [], M) Q := by
  refine am_xn 0 (c1 := (0, [.ref 10, .int (zi i), .int (zi v)], [], M)) rfl ?_
  obtain ⟨r1, hv⟩ := hv
  refine am_xn 2 (c1 := (if zi i < zi 0 then 20 else 4, [.ref 10, .int (zi i), .int (zi v)], [], M)) rfl (am_xlt r1 (by decide) (fun h => ?_) (fun h => ?_))
  · replace hv := hv.1 h
    exact am_xr none ⟨rfl, rfl, rfl⟩ hv
  · replace hv := hv.2 h
    refine am_xn 5 (c1 := (if zi i < zi 1605 then 13 else 20, [.ref 10, .int (zi i), .int (zi v)], [], M)) rfl (am_xlt r1 (by decide) (fun h => ?_) (fun h => ?_))
    · replace hv := hv.1 h
      obtain ⟨r3, hv⟩ := hv
      refine am_xn 4 (c1 := (19, [.ref 10, .int (zi i), .int (zi v)], [.int (zi v), .int (zi i), .ref 11], M)) rfl ?_
      refine am_xast rfl rfl rfl r3 ?_
      refine am_xn 0 (c1 := (20, [.ref 10, .int (zi i), .int (zi v)], [], zup M 11 i v)) rfl ?_
      obtain ⟨M2, eM2⟩ : ∃ m, m = zup M 11 i v := ⟨_, rfl⟩
      replace hv := hv M2 eM2
      rw [← eM2]
      exact am_xr none ⟨rfl, rfl, rfl⟩ hv
    · replace hv := hv.2 h
      exact am_xr none ⟨rfl, rfl, rfl⟩ hv
theorem sp_set_10 (M : am_M) (i : Int) (v : Int) (g : 0 ≤ i ∧ i < 1605) : am_call t_Row_set [.ref 10, .int (zi i), .int (zi v)] M (none) (zup M 11 i v) := by
  refine am_call_of ⟨Nat.le_of_ble_eq_true rfl, rfl⟩ (vc_set_10 i v M _ ?_)
  have := g.1
  (repeat' (first | apply And.intro | intro _)) <;> (first | rfl | omega | (split <;> (first | rfl | omega)))
set_option maxRecDepth 100000 in
theorem vc_get_16 (i : Int) (M : am_M) (Q : Option Value → am_M → Prop) (hv : zr i ∧ ((i < 0 → Q (some (.int (zi 0))) M) ∧ (0 ≤ i → (i < 40 → (0 ≤ i ∧ i < 40) ∧ (Q (some (.int (zi (iv M 17 i)))) M)) ∧ (40 ≤ i → Q (some (.int (zi 0))) M)))) : am_x t_Row_get (0, am_ent (am_mL t_Row_get) [.ref 16, .int (zi i)], [], M) Q := by
  refine am_xn 0 (c1 := (0, [.ref 16, .int (zi i)], [], M)) rfl ?_
  obtain ⟨r1, hv⟩ := hv
  refine am_xn 2 (c1 := (if zi i < zi 0 then 22 else 4, [.ref 16, .int (zi i)], [], M)) rfl (am_xlt r1 (by decide) (fun h => ?_) (fun h => ?_))
  · replace hv := hv.1 h
    refine am_xn 1 (c1 := (23, [.ref 16, .int (zi i)], [.int (zi 0)], M)) rfl ?_
    exact am_xr (some (.int (zi 0))) ⟨rfl, rfl, .int, rfl, rfl⟩ hv
  · replace hv := hv.2 h
    refine am_xn 5 (c1 := (if zi i < zi 40 then 13 else 22, [.ref 16, .int (zi i)], [], M)) rfl (am_xlt r1 (by decide) (fun h => ?_) (fun h => ?_))
    · replace hv := hv.1 h
      obtain ⟨r2, hv⟩ := hv
      refine am_xn 3 (c1 := (18, [.ref 16, .int (zi i)], [.int (zi i), .ref 17], M)) rfl ?_
      refine am_xald rfl rfl rfl r2 ?_
      refine am_xn 0 (c1 := (19, [.ref 16, .int (zi i)], [.int (zi (iv M 17 i))], M)) rfl ?_
      refine am_xn 1 (c1 := (23, [.ref 16, .int (zi i)], [.int (zi (iv M 17 i))], M)) rfl ?_
      exact am_xr (some (.int (zi (iv M 17 i)))) ⟨rfl, rfl, .int, rfl, rfl⟩ hv
    · replace hv := hv.2 h
      refine am_xn 1 (c1 := (23, [.ref 16, .int (zi i)], [.int (zi 0)], M)) rfl ?_
      exact am_xr (some (.int (zi 0))) ⟨rfl, rfl, .int, rfl, rfl⟩ hv
theorem sp_get_16 (M : am_M) (i : Int) (g : 0 ≤ i ∧ i < 40) : am_call t_Row_get [.ref 16, .int (zi i)] M (some (.int (zi (iv M 17 i)))) M := by
  refine am_call_of ⟨Nat.le_of_ble_eq_true rfl, rfl⟩ (vc_get_16 i M _ ?_)
  (repeat' (first | apply And.intro | intro _)) <;> (first | rfl | omega | (split <;> (first | rfl | omega)))
set_option maxRecDepth 100000 in
theorem vc_set_16 (i : Int) (v : Int) (M : am_M) (Q : Option Value → am_M → Prop) (hv : zr i ∧ ((i < 0 → Q none M) ∧ (0 ≤ i → (i < 40 → (0 ≤ i ∧ i < 40) ∧ (∀ M2, M2 = zup M 17 i v → Q none M2)) ∧ (40 ≤ i → Q none M)))) : am_x t_Row_set (0, am_ent (am_mL t_Row_set) [.ref 16, .int (zi i), .int (zi v)], [], M) Q := by
  refine am_xn 0 (c1 := (0, [.ref 16, .int (zi i), .int (zi v)], [], M)) rfl ?_
  obtain ⟨r1, hv⟩ := hv
  refine am_xn 2 (c1 := (if zi i < zi 0 then 20 else 4, [.ref 16, .int (zi i), .int (zi v)], [], M)) rfl (am_xlt r1 (by decide) (fun h => ?_) (fun h => ?_))
  · replace hv := hv.1 h
    exact am_xr none ⟨rfl, rfl, rfl⟩ hv
  · replace hv := hv.2 h
    refine am_xn 5 (c1 := (if zi i < zi 40 then 13 else 20, [.ref 16, .int (zi i), .int (zi v)], [], M)) rfl (am_xlt r1 (by decide) (fun h => ?_) (fun h => ?_))
    · replace hv := hv.1 h
      obtain ⟨r3, hv⟩ := hv
      refine am_xn 4 (c1 := (19, [.ref 16, .int (zi i), .int (zi v)], [.int (zi v), .int (zi i), .ref 17], M)) rfl ?_
      refine am_xast rfl rfl rfl r3 ?_
      refine am_xn 0 (c1 := (20, [.ref 16, .int (zi i), .int (zi v)], [], zup M 17 i v)) rfl ?_
      obtain ⟨M2, eM2⟩ : ∃ m, m = zup M 17 i v := ⟨_, rfl⟩
      replace hv := hv M2 eM2
      rw [← eM2]
      exact am_xr none ⟨rfl, rfl, rfl⟩ hv
    · replace hv := hv.2 h
      exact am_xr none ⟨rfl, rfl, rfl⟩ hv
theorem sp_set_16 (M : am_M) (i : Int) (v : Int) (g : 0 ≤ i ∧ i < 40) : am_call t_Row_set [.ref 16, .int (zi i), .int (zi v)] M (none) (zup M 17 i v) := by
  refine am_call_of ⟨Nat.le_of_ble_eq_true rfl, rfl⟩ (vc_set_16 i v M _ ?_)
  have := g.1
  (repeat' (first | apply And.intro | intro _)) <;> (first | rfl | omega | (split <;> (first | rfl | omega)))
set_option maxRecDepth 100000 in
theorem vc_get_18 (i : Int) (M : am_M) (Q : Option Value → am_M → Prop) (hv : zr i ∧ ((i < 0 → Q (some (.int (zi 0))) M) ∧ (0 ≤ i → (i < 40 → (0 ≤ i ∧ i < 40) ∧ (Q (some (.int (zi (iv M 19 i)))) M)) ∧ (40 ≤ i → Q (some (.int (zi 0))) M)))) : am_x t_Row_get (0, am_ent (am_mL t_Row_get) [.ref 18, .int (zi i)], [], M) Q := by
  refine am_xn 0 (c1 := (0, [.ref 18, .int (zi i)], [], M)) rfl ?_
  obtain ⟨r1, hv⟩ := hv
  refine am_xn 2 (c1 := (if zi i < zi 0 then 22 else 4, [.ref 18, .int (zi i)], [], M)) rfl (am_xlt r1 (by decide) (fun h => ?_) (fun h => ?_))
  · replace hv := hv.1 h
    refine am_xn 1 (c1 := (23, [.ref 18, .int (zi i)], [.int (zi 0)], M)) rfl ?_
    exact am_xr (some (.int (zi 0))) ⟨rfl, rfl, .int, rfl, rfl⟩ hv
  · replace hv := hv.2 h
    refine am_xn 5 (c1 := (if zi i < zi 40 then 13 else 22, [.ref 18, .int (zi i)], [], M)) rfl (am_xlt r1 (by decide) (fun h => ?_) (fun h => ?_))
    · replace hv := hv.1 h
      obtain ⟨r2, hv⟩ := hv
      refine am_xn 3 (c1 := (18, [.ref 18, .int (zi i)], [.int (zi i), .ref 19], M)) rfl ?_
      refine am_xald rfl rfl rfl r2 ?_
      refine am_xn 0 (c1 := (19, [.ref 18, .int (zi i)], [.int (zi (iv M 19 i))], M)) rfl ?_
      refine am_xn 1 (c1 := (23, [.ref 18, .int (zi i)], [.int (zi (iv M 19 i))], M)) rfl ?_
      exact am_xr (some (.int (zi (iv M 19 i)))) ⟨rfl, rfl, .int, rfl, rfl⟩ hv
    · replace hv := hv.2 h
      refine am_xn 1 (c1 := (23, [.ref 18, .int (zi i)], [.int (zi 0)], M)) rfl ?_
      exact am_xr (some (.int (zi 0))) ⟨rfl, rfl, .int, rfl, rfl⟩ hv
theorem sp_get_18 (M : am_M) (i : Int) (g : 0 ≤ i ∧ i < 40) : am_call t_Row_get [.ref 18, .int (zi i)] M (some (.int (zi (iv M 19 i)))) M := by
  refine am_call_of ⟨Nat.le_of_ble_eq_true rfl, rfl⟩ (vc_get_18 i M _ ?_)
  (repeat' (first | apply And.intro | intro _)) <;> (first | rfl | omega | (split <;> (first | rfl | omega)))
set_option maxRecDepth 100000 in
theorem vc_set_18 (i : Int) (v : Int) (M : am_M) (Q : Option Value → am_M → Prop) (hv : zr i ∧ ((i < 0 → Q none M) ∧ (0 ≤ i → (i < 40 → (0 ≤ i ∧ i < 40) ∧ (∀ M2, M2 = zup M 19 i v → Q none M2)) ∧ (40 ≤ i → Q none M)))) : am_x t_Row_set (0, am_ent (am_mL t_Row_set) [.ref 18, .int (zi i), .int (zi v)], [], M) Q := by
  refine am_xn 0 (c1 := (0, [.ref 18, .int (zi i), .int (zi v)], [], M)) rfl ?_
  obtain ⟨r1, hv⟩ := hv
  refine am_xn 2 (c1 := (if zi i < zi 0 then 20 else 4, [.ref 18, .int (zi i), .int (zi v)], [], M)) rfl (am_xlt r1 (by decide) (fun h => ?_) (fun h => ?_))
  · replace hv := hv.1 h
    exact am_xr none ⟨rfl, rfl, rfl⟩ hv
  · replace hv := hv.2 h
    refine am_xn 5 (c1 := (if zi i < zi 40 then 13 else 20, [.ref 18, .int (zi i), .int (zi v)], [], M)) rfl (am_xlt r1 (by decide) (fun h => ?_) (fun h => ?_))
    · replace hv := hv.1 h
      obtain ⟨r3, hv⟩ := hv
      refine am_xn 4 (c1 := (19, [.ref 18, .int (zi i), .int (zi v)], [.int (zi v), .int (zi i), .ref 19], M)) rfl ?_
      refine am_xast rfl rfl rfl r3 ?_
      refine am_xn 0 (c1 := (20, [.ref 18, .int (zi i), .int (zi v)], [], zup M 19 i v)) rfl ?_
      obtain ⟨M2, eM2⟩ : ∃ m, m = zup M 19 i v := ⟨_, rfl⟩
      replace hv := hv M2 eM2
      rw [← eM2]
      exact am_xr none ⟨rfl, rfl, rfl⟩ hv
    · replace hv := hv.2 h
      exact am_xr none ⟨rfl, rfl, rfl⟩ hv
theorem sp_set_18 (M : am_M) (i : Int) (v : Int) (g : 0 ≤ i ∧ i < 40) : am_call t_Row_set [.ref 18, .int (zi i), .int (zi v)] M (none) (zup M 19 i v) := by
  refine am_call_of ⟨Nat.le_of_ble_eq_true rfl, rfl⟩ (vc_set_18 i v M _ ?_)
  have := g.1
  (repeat' (first | apply And.intro | intro _)) <;> (first | rfl | omega | (split <;> (first | rfl | omega)))
set_option maxRecDepth 100000 in
theorem vc_get_20 (i : Int) (M : am_M) (Q : Option Value → am_M → Prop) (hv : zr i ∧ ((i < 0 → Q (some (.int (zi 0))) M) ∧ (0 ≤ i → (i < 40 → (0 ≤ i ∧ i < 40) ∧ (Q (some (.int (zi (iv M 21 i)))) M)) ∧ (40 ≤ i → Q (some (.int (zi 0))) M)))) : am_x t_Row_get (0, am_ent (am_mL t_Row_get) [.ref 20, .int (zi i)], [], M) Q := by
  refine am_xn 0 (c1 := (0, [.ref 20, .int (zi i)], [], M)) rfl ?_
  obtain ⟨r1, hv⟩ := hv
  refine am_xn 2 (c1 := (if zi i < zi 0 then 22 else 4, [.ref 20, .int (zi i)], [], M)) rfl (am_xlt r1 (by decide) (fun h => ?_) (fun h => ?_))
  · replace hv := hv.1 h
    refine am_xn 1 (c1 := (23, [.ref 20, .int (zi i)], [.int (zi 0)], M)) rfl ?_
    exact am_xr (some (.int (zi 0))) ⟨rfl, rfl, .int, rfl, rfl⟩ hv
  · replace hv := hv.2 h
    refine am_xn 5 (c1 := (if zi i < zi 40 then 13 else 22, [.ref 20, .int (zi i)], [], M)) rfl (am_xlt r1 (by decide) (fun h => ?_) (fun h => ?_))
    · replace hv := hv.1 h
      obtain ⟨r2, hv⟩ := hv
      refine am_xn 3 (c1 := (18, [.ref 20, .int (zi i)], [.int (zi i), .ref 21], M)) rfl ?_
      refine am_xald rfl rfl rfl r2 ?_
      refine am_xn 0 (c1 := (19, [.ref 20, .int (zi i)], [.int (zi (iv M 21 i))], M)) rfl ?_
      refine am_xn 1 (c1 := (23, [.ref 20, .int (zi i)], [.int (zi (iv M 21 i))], M)) rfl ?_
      exact am_xr (some (.int (zi (iv M 21 i)))) ⟨rfl, rfl, .int, rfl, rfl⟩ hv
    · replace hv := hv.2 h
      refine am_xn 1 (c1 := (23, [.ref 20, .int (zi i)], [.int (zi 0)], M)) rfl ?_
      exact am_xr (some (.int (zi 0))) ⟨rfl, rfl, .int, rfl, rfl⟩ hv
theorem sp_get_20 (M : am_M) (i : Int) (g : 0 ≤ i ∧ i < 40) : am_call t_Row_get [.ref 20, .int (zi i)] M (some (.int (zi (iv M 21 i)))) M := by
  refine am_call_of ⟨Nat.le_of_ble_eq_true rfl, rfl⟩ (vc_get_20 i M _ ?_)
  (repeat' (first | apply And.intro | intro _)) <;> (first | rfl | omega | (split <;> (first | rfl | omega)))
set_option maxRecDepth 100000 in
theorem vc_set_20 (i : Int) (v : Int) (M : am_M) (Q : Option Value → am_M → Prop) (hv : zr i ∧ ((i < 0 → Q none M) ∧ (0 ≤ i → (i < 40 → (0 ≤ i ∧ i < 40) ∧ (∀ M2, M2 = zup M 21 i v → Q none M2)) ∧ (40 ≤ i → Q none M)))) : am_x t_Row_set (0, am_ent (am_mL t_Row_set) [.ref 20, .int (zi i), .int (zi v)], [], M) Q := by
  refine am_xn 0 (c1 := (0, [.ref 20, .int (zi i), .int (zi v)], [], M)) rfl ?_
  obtain ⟨r1, hv⟩ := hv
  refine am_xn 2 (c1 := (if zi i < zi 0 then 20 else 4, [.ref 20, .int (zi i), .int (zi v)], [], M)) rfl (am_xlt r1 (by decide) (fun h => ?_) (fun h => ?_))
  · replace hv := hv.1 h
    exact am_xr none ⟨rfl, rfl, rfl⟩ hv
  · replace hv := hv.2 h
    refine am_xn 5 (c1 := (if zi i < zi 40 then 13 else 20, [.ref 20, .int (zi i), .int (zi v)], [], M)) rfl (am_xlt r1 (by decide) (fun h => ?_) (fun h => ?_))
    · replace hv := hv.1 h
      obtain ⟨r3, hv⟩ := hv
      refine am_xn 4 (c1 := (19, [.ref 20, .int (zi i), .int (zi v)], [.int (zi v), .int (zi i), .ref 21], M)) rfl ?_
      refine am_xast rfl rfl rfl r3 ?_
      refine am_xn 0 (c1 := (20, [.ref 20, .int (zi i), .int (zi v)], [], zup M 21 i v)) rfl ?_
      obtain ⟨M2, eM2⟩ : ∃ m, m = zup M 21 i v := ⟨_, rfl⟩
      replace hv := hv M2 eM2
      rw [← eM2]
      exact am_xr none ⟨rfl, rfl, rfl⟩ hv
    · replace hv := hv.2 h
      exact am_xr none ⟨rfl, rfl, rfl⟩ hv
theorem sp_set_20 (M : am_M) (i : Int) (v : Int) (g : 0 ≤ i ∧ i < 40) : am_call t_Row_set [.ref 20, .int (zi i), .int (zi v)] M (none) (zup M 21 i v) := by
  refine am_call_of ⟨Nat.le_of_ble_eq_true rfl, rfl⟩ (vc_set_20 i v M _ ?_)
  have := g.1
  (repeat' (first | apply And.intro | intro _)) <;> (first | rfl | omega | (split <;> (first | rfl | omega)))
set_option maxRecDepth 100000 in
theorem vc_get_22 (i : Int) (M : am_M) (Q : Option Value → am_M → Prop) (hv : zr i ∧ ((i < 0 → Q (some (.int (zi 0))) M) ∧ (0 ≤ i → (i < 240 → (0 ≤ i ∧ i < 240) ∧ (Q (some (.int (zi (iv M 23 i)))) M)) ∧ (240 ≤ i → Q (some (.int (zi 0))) M)))) : am_x t_Row_get (0, am_ent (am_mL t_Row_get) [.ref 22, .int (zi i)], [], M) Q := by
  refine am_xn 0 (c1 := (0, [.ref 22, .int (zi i)], [], M)) rfl ?_
  obtain ⟨r1, hv⟩ := hv
  refine am_xn 2 (c1 := (if zi i < zi 0 then 22 else 4, [.ref 22, .int (zi i)], [], M)) rfl (am_xlt r1 (by decide) (fun h => ?_) (fun h => ?_))
  · replace hv := hv.1 h
    refine am_xn 1 (c1 := (23, [.ref 22, .int (zi i)], [.int (zi 0)], M)) rfl ?_
    exact am_xr (some (.int (zi 0))) ⟨rfl, rfl, .int, rfl, rfl⟩ hv
  · replace hv := hv.2 h
    refine am_xn 5 (c1 := (if zi i < zi 240 then 13 else 22, [.ref 22, .int (zi i)], [], M)) rfl (am_xlt r1 (by decide) (fun h => ?_) (fun h => ?_))
    · replace hv := hv.1 h
      obtain ⟨r2, hv⟩ := hv
      refine am_xn 3 (c1 := (18, [.ref 22, .int (zi i)], [.int (zi i), .ref 23], M)) rfl ?_
      refine am_xald rfl rfl rfl r2 ?_
      refine am_xn 0 (c1 := (19, [.ref 22, .int (zi i)], [.int (zi (iv M 23 i))], M)) rfl ?_
      refine am_xn 1 (c1 := (23, [.ref 22, .int (zi i)], [.int (zi (iv M 23 i))], M)) rfl ?_
      exact am_xr (some (.int (zi (iv M 23 i)))) ⟨rfl, rfl, .int, rfl, rfl⟩ hv
    · replace hv := hv.2 h
      refine am_xn 1 (c1 := (23, [.ref 22, .int (zi i)], [.int (zi 0)], M)) rfl ?_
      exact am_xr (some (.int (zi 0))) ⟨rfl, rfl, .int, rfl, rfl⟩ hv
theorem sp_get_22 (M : am_M) (i : Int) (g : 0 ≤ i ∧ i < 240) : am_call t_Row_get [.ref 22, .int (zi i)] M (some (.int (zi (iv M 23 i)))) M := by
  refine am_call_of ⟨Nat.le_of_ble_eq_true rfl, rfl⟩ (vc_get_22 i M _ ?_)
  (repeat' (first | apply And.intro | intro _)) <;> (first | rfl | omega | (split <;> (first | rfl | omega)))
set_option maxRecDepth 100000 in
theorem vc_set_22 (i : Int) (v : Int) (M : am_M) (Q : Option Value → am_M → Prop) (hv : zr i ∧ ((i < 0 → Q none M) ∧ (0 ≤ i → (i < 240 → (0 ≤ i ∧ i < 240) ∧ (∀ M2, M2 = zup M 23 i v → Q none M2)) ∧ (240 ≤ i → Q none M)))) : am_x t_Row_set (0, am_ent (am_mL t_Row_set) [.ref 22, .int (zi i), .int (zi v)], [], M) Q := by
  refine am_xn 0 (c1 := (0, [.ref 22, .int (zi i), .int (zi v)], [], M)) rfl ?_
  obtain ⟨r1, hv⟩ := hv
  refine am_xn 2 (c1 := (if zi i < zi 0 then 20 else 4, [.ref 22, .int (zi i), .int (zi v)], [], M)) rfl (am_xlt r1 (by decide) (fun h => ?_) (fun h => ?_))
  · replace hv := hv.1 h
    exact am_xr none ⟨rfl, rfl, rfl⟩ hv
  · replace hv := hv.2 h
    refine am_xn 5 (c1 := (if zi i < zi 240 then 13 else 20, [.ref 22, .int (zi i), .int (zi v)], [], M)) rfl (am_xlt r1 (by decide) (fun h => ?_) (fun h => ?_))
    · replace hv := hv.1 h
      obtain ⟨r3, hv⟩ := hv
      refine am_xn 4 (c1 := (19, [.ref 22, .int (zi i), .int (zi v)], [.int (zi v), .int (zi i), .ref 23], M)) rfl ?_
      refine am_xast rfl rfl rfl r3 ?_
      refine am_xn 0 (c1 := (20, [.ref 22, .int (zi i), .int (zi v)], [], zup M 23 i v)) rfl ?_
      obtain ⟨M2, eM2⟩ : ∃ m, m = zup M 23 i v := ⟨_, rfl⟩
      replace hv := hv M2 eM2
      rw [← eM2]
      exact am_xr none ⟨rfl, rfl, rfl⟩ hv
    · replace hv := hv.2 h
      exact am_xr none ⟨rfl, rfl, rfl⟩ hv
theorem sp_set_22 (M : am_M) (i : Int) (v : Int) (g : 0 ≤ i ∧ i < 240) : am_call t_Row_set [.ref 22, .int (zi i), .int (zi v)] M (none) (zup M 23 i v) := by
  refine am_call_of ⟨Nat.le_of_ble_eq_true rfl, rfl⟩ (vc_set_22 i v M _ ?_)
  have := g.1
  (repeat' (first | apply And.intro | intro _)) <;> (first | rfl | omega | (split <;> (first | rfl | omega)))
set_option maxRecDepth 100000 in
theorem vc_get_24 (i : Int) (M : am_M) (Q : Option Value → am_M → Prop) (hv : zr i ∧ ((i < 0 → Q (some (.int (zi 0))) M) ∧ (0 ≤ i → (i < 40 → (0 ≤ i ∧ i < 40) ∧ (Q (some (.int (zi (iv M 25 i)))) M)) ∧ (40 ≤ i → Q (some (.int (zi 0))) M)))) : am_x t_Row_get (0, am_ent (am_mL t_Row_get) [.ref 24, .int (zi i)], [], M) Q := by
  refine am_xn 0 (c1 := (0, [.ref 24, .int (zi i)], [], M)) rfl ?_
  obtain ⟨r1, hv⟩ := hv
  refine am_xn 2 (c1 := (if zi i < zi 0 then 22 else 4, [.ref 24, .int (zi i)], [], M)) rfl (am_xlt r1 (by decide) (fun h => ?_) (fun h => ?_))
  · replace hv := hv.1 h
    refine am_xn 1 (c1 := (23, [.ref 24, .int (zi i)], [.int (zi 0)], M)) rfl ?_
    exact am_xr (some (.int (zi 0))) ⟨rfl, rfl, .int, rfl, rfl⟩ hv
  · replace hv := hv.2 h
    refine am_xn 5 (c1 := (if zi i < zi 40 then 13 else 22, [.ref 24, .int (zi i)], [], M)) rfl (am_xlt r1 (by decide) (fun h => ?_) (fun h => ?_))
    · replace hv := hv.1 h
      obtain ⟨r2, hv⟩ := hv
      refine am_xn 3 (c1 := (18, [.ref 24, .int (zi i)], [.int (zi i), .ref 25], M)) rfl ?_
      refine am_xald rfl rfl rfl r2 ?_
      refine am_xn 0 (c1 := (19, [.ref 24, .int (zi i)], [.int (zi (iv M 25 i))], M)) rfl ?_
      refine am_xn 1 (c1 := (23, [.ref 24, .int (zi i)], [.int (zi (iv M 25 i))], M)) rfl ?_
      exact am_xr (some (.int (zi (iv M 25 i)))) ⟨rfl, rfl, .int, rfl, rfl⟩ hv
    · replace hv := hv.2 h
      refine am_xn 1 (c1 := (23, [.ref 24, .int (zi i)], [.int (zi 0)], M)) rfl ?_
      exact am_xr (some (.int (zi 0))) ⟨rfl, rfl, .int, rfl, rfl⟩ hv
theorem sp_get_24 (M : am_M) (i : Int) (g : 0 ≤ i ∧ i < 40) : am_call t_Row_get [.ref 24, .int (zi i)] M (some (.int (zi (iv M 25 i)))) M := by
  refine am_call_of ⟨Nat.le_of_ble_eq_true rfl, rfl⟩ (vc_get_24 i M _ ?_)
  (repeat' (first | apply And.intro | intro _)) <;> (first | rfl | omega | (split <;> (first | rfl | omega)))
set_option maxRecDepth 100000 in
theorem vc_set_24 (i : Int) (v : Int) (M : am_M) (Q : Option Value → am_M → Prop) (hv : zr i ∧ ((i < 0 → Q none M) ∧ (0 ≤ i → (i < 40 → (0 ≤ i ∧ i < 40) ∧ (∀ M2, M2 = zup M 25 i v → Q none M2)) ∧ (40 ≤ i → Q none M)))) : am_x t_Row_set (0, am_ent (am_mL t_Row_set) [.ref 24, .int (zi i), .int (zi v)], [], M) Q := by
  refine am_xn 0 (c1 := (0, [.ref 24, .int (zi i), .int (zi v)], [], M)) rfl ?_
  obtain ⟨r1, hv⟩ := hv
  refine am_xn 2 (c1 := (if zi i < zi 0 then 20 else 4, [.ref 24, .int (zi i), .int (zi v)], [], M)) rfl (am_xlt r1 (by decide) (fun h => ?_) (fun h => ?_))
  · replace hv := hv.1 h
    exact am_xr none ⟨rfl, rfl, rfl⟩ hv
  · replace hv := hv.2 h
    refine am_xn 5 (c1 := (if zi i < zi 40 then 13 else 20, [.ref 24, .int (zi i), .int (zi v)], [], M)) rfl (am_xlt r1 (by decide) (fun h => ?_) (fun h => ?_))
    · replace hv := hv.1 h
      obtain ⟨r3, hv⟩ := hv
      refine am_xn 4 (c1 := (19, [.ref 24, .int (zi i), .int (zi v)], [.int (zi v), .int (zi i), .ref 25], M)) rfl ?_
      refine am_xast rfl rfl rfl r3 ?_
      refine am_xn 0 (c1 := (20, [.ref 24, .int (zi i), .int (zi v)], [], zup M 25 i v)) rfl ?_
      obtain ⟨M2, eM2⟩ : ∃ m, m = zup M 25 i v := ⟨_, rfl⟩
      replace hv := hv M2 eM2
      rw [← eM2]
      exact am_xr none ⟨rfl, rfl, rfl⟩ hv
    · replace hv := hv.2 h
      exact am_xr none ⟨rfl, rfl, rfl⟩ hv
theorem sp_set_24 (M : am_M) (i : Int) (v : Int) (g : 0 ≤ i ∧ i < 40) : am_call t_Row_set [.ref 24, .int (zi i), .int (zi v)] M (none) (zup M 25 i v) := by
  refine am_call_of ⟨Nat.le_of_ble_eq_true rfl, rfl⟩ (vc_set_24 i v M _ ?_)
  have := g.1
  (repeat' (first | apply And.intro | intro _)) <;> (first | rfl | omega | (split <;> (first | rfl | omega)))
set_option maxRecDepth 100000 in
theorem vc_get_26 (i : Int) (M : am_M) (Q : Option Value → am_M → Prop) (hv : zr i ∧ ((i < 0 → Q (some (.int (zi 0))) M) ∧ (0 ≤ i → (i < 120 → (0 ≤ i ∧ i < 120) ∧ (Q (some (.int (zi (iv M 27 i)))) M)) ∧ (120 ≤ i → Q (some (.int (zi 0))) M)))) : am_x t_Row_get (0, am_ent (am_mL t_Row_get) [.ref 26, .int (zi i)], [], M) Q := by
  refine am_xn 0 (c1 := (0, [.ref 26, .int (zi i)], [], M)) rfl ?_
  obtain ⟨r1, hv⟩ := hv
  refine am_xn 2 (c1 := (if zi i < zi 0 then 22 else 4, [.ref 26, .int (zi i)], [], M)) rfl (am_xlt r1 (by decide) (fun h => ?_) (fun h => ?_))
  · replace hv := hv.1 h
    refine am_xn 1 (c1 := (23, [.ref 26, .int (zi i)], [.int (zi 0)], M)) rfl ?_
    exact am_xr (some (.int (zi 0))) ⟨rfl, rfl, .int, rfl, rfl⟩ hv
  · replace hv := hv.2 h
    refine am_xn 5 (c1 := (if zi i < zi 120 then 13 else 22, [.ref 26, .int (zi i)], [], M)) rfl (am_xlt r1 (by decide) (fun h => ?_) (fun h => ?_))
    · replace hv := hv.1 h
      obtain ⟨r2, hv⟩ := hv
      refine am_xn 3 (c1 := (18, [.ref 26, .int (zi i)], [.int (zi i), .ref 27], M)) rfl ?_
      refine am_xald rfl rfl rfl r2 ?_
      refine am_xn 0 (c1 := (19, [.ref 26, .int (zi i)], [.int (zi (iv M 27 i))], M)) rfl ?_
      refine am_xn 1 (c1 := (23, [.ref 26, .int (zi i)], [.int (zi (iv M 27 i))], M)) rfl ?_
      exact am_xr (some (.int (zi (iv M 27 i)))) ⟨rfl, rfl, .int, rfl, rfl⟩ hv
    · replace hv := hv.2 h
      refine am_xn 1 (c1 := (23, [.ref 26, .int (zi i)], [.int (zi 0)], M)) rfl ?_
      exact am_xr (some (.int (zi 0))) ⟨rfl, rfl, .int, rfl, rfl⟩ hv
theorem sp_get_26 (M : am_M) (i : Int) (g : 0 ≤ i ∧ i < 120) : am_call t_Row_get [.ref 26, .int (zi i)] M (some (.int (zi (iv M 27 i)))) M := by
  refine am_call_of ⟨Nat.le_of_ble_eq_true rfl, rfl⟩ (vc_get_26 i M _ ?_)
  (repeat' (first | apply And.intro | intro _)) <;> (first | rfl | omega | (split <;> (first | rfl | omega)))
set_option maxRecDepth 100000 in
theorem vc_set_26 (i : Int) (v : Int) (M : am_M) (Q : Option Value → am_M → Prop) (hv : zr i ∧ ((i < 0 → Q none M) ∧ (0 ≤ i → (i < 120 → (0 ≤ i ∧ i < 120) ∧ (∀ M2, M2 = zup M 27 i v → Q none M2)) ∧ (120 ≤ i → Q none M)))) : am_x t_Row_set (0, am_ent (am_mL t_Row_set) [.ref 26, .int (zi i), .int (zi v)], [], M) Q := by
  refine am_xn 0 (c1 := (0, [.ref 26, .int (zi i), .int (zi v)], [], M)) rfl ?_
  obtain ⟨r1, hv⟩ := hv
  refine am_xn 2 (c1 := (if zi i < zi 0 then 20 else 4, [.ref 26, .int (zi i), .int (zi v)], [], M)) rfl (am_xlt r1 (by decide) (fun h => ?_) (fun h => ?_))
  · replace hv := hv.1 h
    exact am_xr none ⟨rfl, rfl, rfl⟩ hv
  · replace hv := hv.2 h
    refine am_xn 5 (c1 := (if zi i < zi 120 then 13 else 20, [.ref 26, .int (zi i), .int (zi v)], [], M)) rfl (am_xlt r1 (by decide) (fun h => ?_) (fun h => ?_))
    · replace hv := hv.1 h
      obtain ⟨r3, hv⟩ := hv
      refine am_xn 4 (c1 := (19, [.ref 26, .int (zi i), .int (zi v)], [.int (zi v), .int (zi i), .ref 27], M)) rfl ?_
      refine am_xast rfl rfl rfl r3 ?_
      refine am_xn 0 (c1 := (20, [.ref 26, .int (zi i), .int (zi v)], [], zup M 27 i v)) rfl ?_
      obtain ⟨M2, eM2⟩ : ∃ m, m = zup M 27 i v := ⟨_, rfl⟩
      replace hv := hv M2 eM2
      rw [← eM2]
      exact am_xr none ⟨rfl, rfl, rfl⟩ hv
    · replace hv := hv.2 h
      exact am_xr none ⟨rfl, rfl, rfl⟩ hv
theorem sp_set_26 (M : am_M) (i : Int) (v : Int) (g : 0 ≤ i ∧ i < 120) : am_call t_Row_set [.ref 26, .int (zi i), .int (zi v)] M (none) (zup M 27 i v) := by
  refine am_call_of ⟨Nat.le_of_ble_eq_true rfl, rfl⟩ (vc_set_26 i v M _ ?_)
  have := g.1
  (repeat' (first | apply And.intro | intro _)) <;> (first | rfl | omega | (split <;> (first | rfl | omega)))
set_option maxRecDepth 100000 in
theorem vc_get_28 (i : Int) (M : am_M) (Q : Option Value → am_M → Prop) (hv : zr i ∧ ((i < 0 → Q (some (.int (zi 0))) M) ∧ (0 ≤ i → (i < 120 → (0 ≤ i ∧ i < 120) ∧ (Q (some (.int (zi (iv M 29 i)))) M)) ∧ (120 ≤ i → Q (some (.int (zi 0))) M)))) : am_x t_Row_get (0, am_ent (am_mL t_Row_get) [.ref 28, .int (zi i)], [], M) Q := by
  refine am_xn 0 (c1 := (0, [.ref 28, .int (zi i)], [], M)) rfl ?_
  obtain ⟨r1, hv⟩ := hv
  refine am_xn 2 (c1 := (if zi i < zi 0 then 22 else 4, [.ref 28, .int (zi i)], [], M)) rfl (am_xlt r1 (by decide) (fun h => ?_) (fun h => ?_))
  · replace hv := hv.1 h
    refine am_xn 1 (c1 := (23, [.ref 28, .int (zi i)], [.int (zi 0)], M)) rfl ?_
    exact am_xr (some (.int (zi 0))) ⟨rfl, rfl, .int, rfl, rfl⟩ hv
  · replace hv := hv.2 h
    refine am_xn 5 (c1 := (if zi i < zi 120 then 13 else 22, [.ref 28, .int (zi i)], [], M)) rfl (am_xlt r1 (by decide) (fun h => ?_) (fun h => ?_))
    · replace hv := hv.1 h
      obtain ⟨r2, hv⟩ := hv
      refine am_xn 3 (c1 := (18, [.ref 28, .int (zi i)], [.int (zi i), .ref 29], M)) rfl ?_
      refine am_xald rfl rfl rfl r2 ?_
      refine am_xn 0 (c1 := (19, [.ref 28, .int (zi i)], [.int (zi (iv M 29 i))], M)) rfl ?_
      refine am_xn 1 (c1 := (23, [.ref 28, .int (zi i)], [.int (zi (iv M 29 i))], M)) rfl ?_
      exact am_xr (some (.int (zi (iv M 29 i)))) ⟨rfl, rfl, .int, rfl, rfl⟩ hv
    · replace hv := hv.2 h
      refine am_xn 1 (c1 := (23, [.ref 28, .int (zi i)], [.int (zi 0)], M)) rfl ?_
      exact am_xr (some (.int (zi 0))) ⟨rfl, rfl, .int, rfl, rfl⟩ hv
theorem sp_get_28 (M : am_M) (i : Int) (g : 0 ≤ i ∧ i < 120) : am_call t_Row_get [.ref 28, .int (zi i)] M (some (.int (zi (iv M 29 i)))) M := by
  refine am_call_of ⟨Nat.le_of_ble_eq_true rfl, rfl⟩ (vc_get_28 i M _ ?_)
  (repeat' (first | apply And.intro | intro _)) <;> (first | rfl | omega | (split <;> (first | rfl | omega)))
set_option maxRecDepth 100000 in
theorem vc_set_28 (i : Int) (v : Int) (M : am_M) (Q : Option Value → am_M → Prop) (hv : zr i ∧ ((i < 0 → Q none M) ∧ (0 ≤ i → (i < 120 → (0 ≤ i ∧ i < 120) ∧ (∀ M2, M2 = zup M 29 i v → Q none M2)) ∧ (120 ≤ i → Q none M)))) : am_x t_Row_set (0, am_ent (am_mL t_Row_set) [.ref 28, .int (zi i), .int (zi v)], [], M) Q := by
  refine am_xn 0 (c1 := (0, [.ref 28, .int (zi i), .int (zi v)], [], M)) rfl ?_
  obtain ⟨r1, hv⟩ := hv
  refine am_xn 2 (c1 := (if zi i < zi 0 then 20 else 4, [.ref 28, .int (zi i), .int (zi v)], [], M)) rfl (am_xlt r1 (by decide) (fun h => ?_) (fun h => ?_))
  · replace hv := hv.1 h
    exact am_xr none ⟨rfl, rfl, rfl⟩ hv
  · replace hv := hv.2 h
    refine am_xn 5 (c1 := (if zi i < zi 120 then 13 else 20, [.ref 28, .int (zi i), .int (zi v)], [], M)) rfl (am_xlt r1 (by decide) (fun h => ?_) (fun h => ?_))
    · replace hv := hv.1 h
      obtain ⟨r3, hv⟩ := hv
      refine am_xn 4 (c1 := (19, [.ref 28, .int (zi i), .int (zi v)], [.int (zi v), .int (zi i), .ref 29], M)) rfl ?_
      refine am_xast rfl rfl rfl r3 ?_
      refine am_xn 0 (c1 := (20, [.ref 28, .int (zi i), .int (zi v)], [], zup M 29 i v)) rfl ?_
      obtain ⟨M2, eM2⟩ : ∃ m, m = zup M 29 i v := ⟨_, rfl⟩
      replace hv := hv M2 eM2
      rw [← eM2]
      exact am_xr none ⟨rfl, rfl, rfl⟩ hv
    · replace hv := hv.2 h
      exact am_xr none ⟨rfl, rfl, rfl⟩ hv
theorem sp_set_28 (M : am_M) (i : Int) (v : Int) (g : 0 ≤ i ∧ i < 120) : am_call t_Row_set [.ref 28, .int (zi i), .int (zi v)] M (none) (zup M 29 i v) := by
  refine am_call_of ⟨Nat.le_of_ble_eq_true rfl, rfl⟩ (vc_set_28 i v M _ ?_)
  have := g.1
  (repeat' (first | apply And.intro | intro _)) <;> (first | rfl | omega | (split <;> (first | rfl | omega)))
set_option maxRecDepth 100000 in
theorem vc_get_30 (i : Int) (M : am_M) (Q : Option Value → am_M → Prop) (hv : zr i ∧ ((i < 0 → Q (some (.int (zi 0))) M) ∧ (0 ≤ i → (i < 120 → (0 ≤ i ∧ i < 120) ∧ (Q (some (.int (zi (iv M 31 i)))) M)) ∧ (120 ≤ i → Q (some (.int (zi 0))) M)))) : am_x t_Row_get (0, am_ent (am_mL t_Row_get) [.ref 30, .int (zi i)], [], M) Q := by
  refine am_xn 0 (c1 := (0, [.ref 30, .int (zi i)], [], M)) rfl ?_
  obtain ⟨r1, hv⟩ := hv
  refine am_xn 2 (c1 := (if zi i < zi 0 then 22 else 4, [.ref 30, .int (zi i)], [], M)) rfl (am_xlt r1 (by decide) (fun h => ?_) (fun h => ?_))
  · replace hv := hv.1 h
    refine am_xn 1 (c1 := (23, [.ref 30, .int (zi i)], [.int (zi 0)], M)) rfl ?_
    exact am_xr (some (.int (zi 0))) ⟨rfl, rfl, .int, rfl, rfl⟩ hv
  · replace hv := hv.2 h
    refine am_xn 5 (c1 := (if zi i < zi 120 then 13 else 22, [.ref 30, .int (zi i)], [], M)) rfl (am_xlt r1 (by decide) (fun h => ?_) (fun h => ?_))
    · replace hv := hv.1 h
      obtain ⟨r2, hv⟩ := hv
      refine am_xn 3 (c1 := (18, [.ref 30, .int (zi i)], [.int (zi i), .ref 31], M)) rfl ?_
      refine am_xald rfl rfl rfl r2 ?_
      refine am_xn 0 (c1 := (19, [.ref 30, .int (zi i)], [.int (zi (iv M 31 i))], M)) rfl ?_
      refine am_xn 1 (c1 := (23, [.ref 30, .int (zi i)], [.int (zi (iv M 31 i))], M)) rfl ?_
      exact am_xr (some (.int (zi (iv M 31 i)))) ⟨rfl, rfl, .int, rfl, rfl⟩ hv
    · replace hv := hv.2 h
      refine am_xn 1 (c1 := (23, [.ref 30, .int (zi i)], [.int (zi 0)], M)) rfl ?_
      exact am_xr (some (.int (zi 0))) ⟨rfl, rfl, .int, rfl, rfl⟩ hv
theorem sp_get_30 (M : am_M) (i : Int) (g : 0 ≤ i ∧ i < 120) : am_call t_Row_get [.ref 30, .int (zi i)] M (some (.int (zi (iv M 31 i)))) M := by
  refine am_call_of ⟨Nat.le_of_ble_eq_true rfl, rfl⟩ (vc_get_30 i M _ ?_)
  (repeat' (first | apply And.intro | intro _)) <;> (first | rfl | omega | (split <;> (first | rfl | omega)))
set_option maxRecDepth 100000 in
theorem vc_set_30 (i : Int) (v : Int) (M : am_M) (Q : Option Value → am_M → Prop) (hv : zr i ∧ ((i < 0 → Q none M) ∧ (0 ≤ i → (i < 120 → (0 ≤ i ∧ i < 120) ∧ (∀ M2, M2 = zup M 31 i v → Q none M2)) ∧ (120 ≤ i → Q none M)))) : am_x t_Row_set (0, am_ent (am_mL t_Row_set) [.ref 30, .int (zi i), .int (zi v)], [], M) Q := by
  refine am_xn 0 (c1 := (0, [.ref 30, .int (zi i), .int (zi v)], [], M)) rfl ?_
  obtain ⟨r1, hv⟩ := hv
  refine am_xn 2 (c1 := (if zi i < zi 0 then 20 else 4, [.ref 30, .int (zi i), .int (zi v)], [], M)) rfl (am_xlt r1 (by decide) (fun h => ?_) (fun h => ?_))
  · replace hv := hv.1 h
    exact am_xr none ⟨rfl, rfl, rfl⟩ hv
  · replace hv := hv.2 h
    refine am_xn 5 (c1 := (if zi i < zi 120 then 13 else 20, [.ref 30, .int (zi i), .int (zi v)], [], M)) rfl (am_xlt r1 (by decide) (fun h => ?_) (fun h => ?_))
    · replace hv := hv.1 h
      obtain ⟨r3, hv⟩ := hv
      refine am_xn 4 (c1 := (19, [.ref 30, .int (zi i), .int (zi v)], [.int (zi v), .int (zi i), .ref 31], M)) rfl ?_
      refine am_xast rfl rfl rfl r3 ?_
      refine am_xn 0 (c1 := (20, [.ref 30, .int (zi i), .int (zi v)], [], zup M 31 i v)) rfl ?_
      obtain ⟨M2, eM2⟩ : ∃ m, m = zup M 31 i v := ⟨_, rfl⟩
      replace hv := hv M2 eM2
      rw [← eM2]
      exact am_xr none ⟨rfl, rfl, rfl⟩ hv
    · replace hv := hv.2 h
      exact am_xr none ⟨rfl, rfl, rfl⟩ hv
theorem sp_set_30 (M : am_M) (i : Int) (v : Int) (g : 0 ≤ i ∧ i < 120) : am_call t_Row_set [.ref 30, .int (zi i), .int (zi v)] M (none) (zup M 31 i v) := by
  refine am_call_of ⟨Nat.le_of_ble_eq_true rfl, rfl⟩ (vc_set_30 i v M _ ?_)
  have := g.1
  (repeat' (first | apply And.intro | intro _)) <;> (first | rfl | omega | (split <;> (first | rfl | omega)))
set_option maxRecDepth 100000 in
theorem vc_get_32 (i : Int) (M : am_M) (Q : Option Value → am_M → Prop) (hv : zr i ∧ ((i < 0 → Q (some (.int (zi 0))) M) ∧ (0 ≤ i → (i < 6 → (0 ≤ i ∧ i < 6) ∧ (Q (some (.int (zi (iv M 33 i)))) M)) ∧ (6 ≤ i → Q (some (.int (zi 0))) M)))) : am_x t_Row_get (0, am_ent (am_mL t_Row_get) [.ref 32, .int (zi i)], [], M) Q := by
  refine am_xn 0 (c1 := (0, [.ref 32, .int (zi i)], [], M)) rfl ?_
  obtain ⟨r1, hv⟩ := hv
  refine am_xn 2 (c1 := (if zi i < zi 0 then 22 else 4, [.ref 32, .int (zi i)], [], M)) rfl (am_xlt r1 (by decide) (fun h => ?_) (fun h => ?_))
  · replace hv := hv.1 h
    refine am_xn 1 (c1 := (23, [.ref 32, .int (zi i)], [.int (zi 0)], M)) rfl ?_
    exact am_xr (some (.int (zi 0))) ⟨rfl, rfl, .int, rfl, rfl⟩ hv
  · replace hv := hv.2 h
    refine am_xn 5 (c1 := (if zi i < zi 6 then 13 else 22, [.ref 32, .int (zi i)], [], M)) rfl (am_xlt r1 (by decide) (fun h => ?_) (fun h => ?_))
    · replace hv := hv.1 h
      obtain ⟨r2, hv⟩ := hv
      refine am_xn 3 (c1 := (18, [.ref 32, .int (zi i)], [.int (zi i), .ref 33], M)) rfl ?_
      refine am_xald rfl rfl rfl r2 ?_
      refine am_xn 0 (c1 := (19, [.ref 32, .int (zi i)], [.int (zi (iv M 33 i))], M)) rfl ?_
      refine am_xn 1 (c1 := (23, [.ref 32, .int (zi i)], [.int (zi (iv M 33 i))], M)) rfl ?_
      exact am_xr (some (.int (zi (iv M 33 i)))) ⟨rfl, rfl, .int, rfl, rfl⟩ hv
    · replace hv := hv.2 h
      refine am_xn 1 (c1 := (23, [.ref 32, .int (zi i)], [.int (zi 0)], M)) rfl ?_
      exact am_xr (some (.int (zi 0))) ⟨rfl, rfl, .int, rfl, rfl⟩ hv
theorem sp_get_32 (M : am_M) (i : Int) (g : 0 ≤ i ∧ i < 6) : am_call t_Row_get [.ref 32, .int (zi i)] M (some (.int (zi (iv M 33 i)))) M := by
  refine am_call_of ⟨Nat.le_of_ble_eq_true rfl, rfl⟩ (vc_get_32 i M _ ?_)
  (repeat' (first | apply And.intro | intro _)) <;> (first | rfl | omega | (split <;> (first | rfl | omega)))
set_option maxRecDepth 100000 in
theorem vc_set_32 (i : Int) (v : Int) (M : am_M) (Q : Option Value → am_M → Prop) (hv : zr i ∧ ((i < 0 → Q none M) ∧ (0 ≤ i → (i < 6 → (0 ≤ i ∧ i < 6) ∧ (∀ M2, M2 = zup M 33 i v → Q none M2)) ∧ (6 ≤ i → Q none M)))) : am_x t_Row_set (0, am_ent (am_mL t_Row_set) [.ref 32, .int (zi i), .int (zi v)], [], M) Q := by
  refine am_xn 0 (c1 := (0, [.ref 32, .int (zi i), .int (zi v)], [], M)) rfl ?_
  obtain ⟨r1, hv⟩ := hv
  refine am_xn 2 (c1 := (if zi i < zi 0 then 20 else 4, [.ref 32, .int (zi i), .int (zi v)], [], M)) rfl (am_xlt r1 (by decide) (fun h => ?_) (fun h => ?_))
  · replace hv := hv.1 h
    exact am_xr none ⟨rfl, rfl, rfl⟩ hv
  · replace hv := hv.2 h
    refine am_xn 5 (c1 := (if zi i < zi 6 then 13 else 20, [.ref 32, .int (zi i), .int (zi v)], [], M)) rfl (am_xlt r1 (by decide) (fun h => ?_) (fun h => ?_))
    · replace hv := hv.1 h
      obtain ⟨r3, hv⟩ := hv
      refine am_xn 4 (c1 := (19, [.ref 32, .int (zi i), .int (zi v)], [.int (zi v), .int (zi i), .ref 33], M)) rfl ?_
      refine am_xast rfl rfl rfl r3 ?_
      refine am_xn 0 (c1 := (20, [.ref 32, .int (zi i), .int (zi v)], [], zup M 33 i v)) rfl ?_
      obtain ⟨M2, eM2⟩ : ∃ m, m = zup M 33 i v := ⟨_, rfl⟩
      replace hv := hv M2 eM2
      rw [← eM2]
      exact am_xr none ⟨rfl, rfl, rfl⟩ hv
    · replace hv := hv.2 h
      exact am_xr none ⟨rfl, rfl, rfl⟩ hv
theorem sp_set_32 (M : am_M) (i : Int) (v : Int) (g : 0 ≤ i ∧ i < 6) : am_call t_Row_set [.ref 32, .int (zi i), .int (zi v)] M (none) (zup M 33 i v) := by
  refine am_call_of ⟨Nat.le_of_ble_eq_true rfl, rfl⟩ (vc_set_32 i v M _ ?_)
  have := g.1
  (repeat' (first | apply And.intro | intro _)) <;> (first | rfl | omega | (split <;> (first | rfl | omega)))
set_option maxRecDepth 100000 in
theorem vc_get_35 (i : Int) (M : am_M) (Q : Option Value → am_M → Prop) (hv : zr i ∧ ((i < 0 → Q (some (.int (zi 0))) M) ∧ (0 ≤ i → (i < 40 → (0 ≤ i ∧ i < 40) ∧ (Q (some (.int (zi (iv M 36 i)))) M)) ∧ (40 ≤ i → Q (some (.int (zi 0))) M)))) : am_x t_Row_get (0, am_ent (am_mL t_Row_get) [.ref 35, .int (zi i)], [], M) Q := by
  refine am_xn 0 (c1 := (0, [.ref 35, .int (zi i)], [], M)) rfl ?_
  obtain ⟨r1, hv⟩ := hv
  refine am_xn 2 (c1 := (if zi i < zi 0 then 22 else 4, [.ref 35, .int (zi i)], [], M)) rfl (am_xlt r1 (by decide) (fun h => ?_) (fun h => ?_))
  · replace hv := hv.1 h
    refine am_xn 1 (c1 := (23, [.ref 35, .int (zi i)], [.int (zi 0)], M)) rfl ?_
    exact am_xr (some (.int (zi 0))) ⟨rfl, rfl, .int, rfl, rfl⟩ hv
  · replace hv := hv.2 h
    refine am_xn 5 (c1 := (if zi i < zi 40 then 13 else 22, [.ref 35, .int (zi i)], [], M)) rfl (am_xlt r1 (by decide) (fun h => ?_) (fun h => ?_))
    · replace hv := hv.1 h
      obtain ⟨r2, hv⟩ := hv
      refine am_xn 3 (c1 := (18, [.ref 35, .int (zi i)], [.int (zi i), .ref 36], M)) rfl ?_
      refine am_xald rfl rfl rfl r2 ?_
      refine am_xn 0 (c1 := (19, [.ref 35, .int (zi i)], [.int (zi (iv M 36 i))], M)) rfl ?_
      refine am_xn 1 (c1 := (23, [.ref 35, .int (zi i)], [.int (zi (iv M 36 i))], M)) rfl ?_
      exact am_xr (some (.int (zi (iv M 36 i)))) ⟨rfl, rfl, .int, rfl, rfl⟩ hv
    · replace hv := hv.2 h
      refine am_xn 1 (c1 := (23, [.ref 35, .int (zi i)], [.int (zi 0)], M)) rfl ?_
      exact am_xr (some (.int (zi 0))) ⟨rfl, rfl, .int, rfl, rfl⟩ hv
theorem sp_get_35 (M : am_M) (i : Int) (g : 0 ≤ i ∧ i < 40) : am_call t_Row_get [.ref 35, .int (zi i)] M (some (.int (zi (iv M 36 i)))) M := by
  refine am_call_of ⟨Nat.le_of_ble_eq_true rfl, rfl⟩ (vc_get_35 i M _ ?_)
  (repeat' (first | apply And.intro | intro _)) <;> (first | rfl | omega | (split <;> (first | rfl | omega)))
set_option maxRecDepth 100000 in
theorem vc_set_35 (i : Int) (v : Int) (M : am_M) (Q : Option Value → am_M → Prop) (hv : zr i ∧ ((i < 0 → Q none M) ∧ (0 ≤ i → (i < 40 → (0 ≤ i ∧ i < 40) ∧ (∀ M2, M2 = zup M 36 i v → Q none M2)) ∧ (40 ≤ i → Q none M)))) : am_x t_Row_set (0, am_ent (am_mL t_Row_set) [.ref 35, .int (zi i), .int (zi v)], [], M) Q := by
  refine am_xn 0 (c1 := (0, [.ref 35, .int (zi i), .int (zi v)], [], M)) rfl ?_
  obtain ⟨r1, hv⟩ := hv
  refine am_xn 2 (c1 := (if zi i < zi 0 then 20 else 4, [.ref 35, .int (zi i), .int (zi v)], [], M)) rfl (am_xlt r1 (by decide) (fun h => ?_) (fun h => ?_))
  · replace hv := hv.1 h
    exact am_xr none ⟨rfl, rfl, rfl⟩ hv
  · replace hv := hv.2 h
    refine am_xn 5 (c1 := (if zi i < zi 40 then 13 else 20, [.ref 35, .int (zi i), .int (zi v)], [], M)) rfl (am_xlt r1 (by decide) (fun h => ?_) (fun h => ?_))
    · replace hv := hv.1 h
      obtain ⟨r3, hv⟩ := hv
      refine am_xn 4 (c1 := (19, [.ref 35, .int (zi i), .int (zi v)], [.int (zi v), .int (zi i), .ref 36], M)) rfl ?_
      refine am_xast rfl rfl rfl r3 ?_
      refine am_xn 0 (c1 := (20, [.ref 35, .int (zi i), .int (zi v)], [], zup M 36 i v)) rfl ?_
      obtain ⟨M2, eM2⟩ : ∃ m, m = zup M 36 i v := ⟨_, rfl⟩
      replace hv := hv M2 eM2
      rw [← eM2]
      exact am_xr none ⟨rfl, rfl, rfl⟩ hv
    · replace hv := hv.2 h
      exact am_xr none ⟨rfl, rfl, rfl⟩ hv
theorem sp_set_35 (M : am_M) (i : Int) (v : Int) (g : 0 ≤ i ∧ i < 40) : am_call t_Row_set [.ref 35, .int (zi i), .int (zi v)] M (none) (zup M 36 i v) := by
  refine am_call_of ⟨Nat.le_of_ble_eq_true rfl, rfl⟩ (vc_set_35 i v M _ ?_)
  have := g.1
  (repeat' (first | apply And.intro | intro _)) <;> (first | rfl | omega | (split <;> (first | rfl | omega)))
set_option maxRecDepth 100000 in
theorem vc_get_37 (i : Int) (M : am_M) (Q : Option Value → am_M → Prop) (hv : zr i ∧ ((i < 0 → Q (some (.int (zi 0))) M) ∧ (0 ≤ i → (i < 40 → (0 ≤ i ∧ i < 40) ∧ (Q (some (.int (zi (iv M 38 i)))) M)) ∧ (40 ≤ i → Q (some (.int (zi 0))) M)))) : am_x t_Row_get (0, am_ent (am_mL t_Row_get) [.ref 37, .int (zi i)], [], M) Q := by
  refine am_xn 0 (c1 := (0, [.ref 37, .int (zi i)], [], M)) rfl ?_
  obtain ⟨r1, hv⟩ := hv
  refine am_xn 2 (c1 := (if zi i < zi 0 then 22 else 4, [.ref 37, .int (zi i)], [], M)) rfl (am_xlt r1 (by decide) (fun h => ?_) (fun h => ?_))
  · replace hv := hv.1 h
    refine am_xn 1 (c1 := (23, [.ref 37, .int (zi i)], [.int (zi 0)], M)) rfl ?_
    exact am_xr (some (.int (zi 0))) ⟨rfl, rfl, .int, rfl, rfl⟩ hv
  · replace hv := hv.2 h
    refine am_xn 5 (c1 := (if zi i < zi 40 then 13 else 22, [.ref 37, .int (zi i)], [], M)) rfl (am_xlt r1 (by decide) (fun h => ?_) (fun h => ?_))
    · replace hv := hv.1 h
      obtain ⟨r2, hv⟩ := hv
      refine am_xn 3 (c1 := (18, [.ref 37, .int (zi i)], [.int (zi i), .ref 38], M)) rfl ?_
      refine am_xald rfl rfl rfl r2 ?_
      refine am_xn 0 (c1 := (19, [.ref 37, .int (zi i)], [.int (zi (iv M 38 i))], M)) rfl ?_
      refine am_xn 1 (c1 := (23, [.ref 37, .int (zi i)], [.int (zi (iv M 38 i))], M)) rfl ?_
      exact am_xr (some (.int (zi (iv M 38 i)))) ⟨rfl, rfl, .int, rfl, rfl⟩ hv
    · replace hv := hv.2 h
      refine am_xn 1 (c1 := (23, [.ref 37, .int (zi i)], [.int (zi 0)], M)) rfl ?_
      exact am_xr (some (.int (zi 0))) ⟨rfl, rfl, .int, rfl, rfl⟩ hv
theorem sp_get_37 (M : am_M) (i : Int) (g : 0 ≤ i ∧ i < 40) : am_call t_Row_get [.ref 37, .int (zi i)] M (some (.int (zi (iv M 38 i)))) M := by
  refine am_call_of ⟨Nat.le_of_ble_eq_true rfl, rfl⟩ (vc_get_37 i M _ ?_)
  (repeat' (first | apply And.intro | intro _)) <;> (first | rfl | omega | (split <;> (first | rfl | omega)))
set_option maxRecDepth 100000 in
theorem vc_set_37 (i : Int) (v : Int) (M : am_M) (Q : Option Value → am_M → Prop) (hv : zr i ∧ ((i < 0 → Q none M) ∧ (0 ≤ i → (i < 40 → (0 ≤ i ∧ i < 40) ∧ (∀ M2, M2 = zup M 38 i v → Q none M2)) ∧ (40 ≤ i → Q none M)))) : am_x t_Row_set (0, am_ent (am_mL t_Row_set) [.ref 37, .int (zi i), .int (zi v)], [], M) Q := by
  refine am_xn 0 (c1 := (0, [.ref 37, .int (zi i), .int (zi v)], [], M)) rfl ?_
  obtain ⟨r1, hv⟩ := hv
  refine am_xn 2 (c1 := (if zi i < zi 0 then 20 else 4, [.ref 37, .int (zi i), .int (zi v)], [], M)) rfl (am_xlt r1 (by decide) (fun h => ?_) (fun h => ?_))
  · replace hv := hv.1 h
    exact am_xr none ⟨rfl, rfl, rfl⟩ hv
  · replace hv := hv.2 h
    refine am_xn 5 (c1 := (if zi i < zi 40 then 13 else 20, [.ref 37, .int (zi i), .int (zi v)], [], M)) rfl (am_xlt r1 (by decide) (fun h => ?_) (fun h => ?_))
    · replace hv := hv.1 h
      obtain ⟨r3, hv⟩ := hv
      refine am_xn 4 (c1 := (19, [.ref 37, .int (zi i), .int (zi v)], [.int (zi v), .int (zi i), .ref 38], M)) rfl ?_
      refine am_xast rfl rfl rfl r3 ?_
      refine am_xn 0 (c1 := (20, [.ref 37, .int (zi i), .int (zi v)], [], zup M 38 i v)) rfl ?_
      obtain ⟨M2, eM2⟩ : ∃ m, m = zup M 38 i v := ⟨_, rfl⟩
      replace hv := hv M2 eM2
      rw [← eM2]
      exact am_xr none ⟨rfl, rfl, rfl⟩ hv
    · replace hv := hv.2 h
      exact am_xr none ⟨rfl, rfl, rfl⟩ hv
theorem sp_set_37 (M : am_M) (i : Int) (v : Int) (g : 0 ≤ i ∧ i < 40) : am_call t_Row_set [.ref 37, .int (zi i), .int (zi v)] M (none) (zup M 38 i v) := by
  refine am_call_of ⟨Nat.le_of_ble_eq_true rfl, rfl⟩ (vc_set_37 i v M _ ?_)
  have := g.1
  (repeat' (first | apply And.intro | intro _)) <;> (first | rfl | omega | (split <;> (first | rfl | omega)))
set_option maxRecDepth 100000 in
theorem vc_get_39 (i : Int) (M : am_M) (Q : Option Value → am_M → Prop) (hv : zr i ∧ ((i < 0 → Q (some (.int (zi 0))) M) ∧ (0 ≤ i → (i < 40 → (0 ≤ i ∧ i < 40) ∧ (Q (some (.int (zi (iv M 40 i)))) M)) ∧ (40 ≤ i → Q (some (.int (zi 0))) M)))) : am_x t_Row_get (0, am_ent (am_mL t_Row_get) [.ref 39, .int (zi i)], [], M) Q := by
  refine am_xn 0 (c1 := (0, [.ref 39, .int (zi i)], [], M)) rfl ?_
  obtain ⟨r1, hv⟩ := hv
  refine am_xn 2 (c1 := (if zi i < zi 0 then 22 else 4, [.ref 39, .int (zi i)], [], M)) rfl (am_xlt r1 (by decide) (fun h => ?_) (fun h => ?_))
  · replace hv := hv.1 h
    refine am_xn 1 (c1 := (23, [.ref 39, .int (zi i)], [.int (zi 0)], M)) rfl ?_
    exact am_xr (some (.int (zi 0))) ⟨rfl, rfl, .int, rfl, rfl⟩ hv
  · replace hv := hv.2 h
    refine am_xn 5 (c1 := (if zi i < zi 40 then 13 else 22, [.ref 39, .int (zi i)], [], M)) rfl (am_xlt r1 (by decide) (fun h => ?_) (fun h => ?_))
    · replace hv := hv.1 h
      obtain ⟨r2, hv⟩ := hv
      refine am_xn 3 (c1 := (18, [.ref 39, .int (zi i)], [.int (zi i), .ref 40], M)) rfl ?_
      refine am_xald rfl rfl rfl r2 ?_
      refine am_xn 0 (c1 := (19, [.ref 39, .int (zi i)], [.int (zi (iv M 40 i))], M)) rfl ?_
      refine am_xn 1 (c1 := (23, [.ref 39, .int (zi i)], [.int (zi (iv M 40 i))], M)) rfl ?_
      exact am_xr (some (.int (zi (iv M 40 i)))) ⟨rfl, rfl, .int, rfl, rfl⟩ hv
    · replace hv := hv.2 h
      refine am_xn 1 (c1 := (23, [.ref 39, .int (zi i)], [.int (zi 0)], M)) rfl ?_
      exact am_xr (some (.int (zi 0))) ⟨rfl, rfl, .int, rfl, rfl⟩ hv
theorem sp_get_39 (M : am_M) (i : Int) (g : 0 ≤ i ∧ i < 40) : am_call t_Row_get [.ref 39, .int (zi i)] M (some (.int (zi (iv M 40 i)))) M := by
  refine am_call_of ⟨Nat.le_of_ble_eq_true rfl, rfl⟩ (vc_get_39 i M _ ?_)
  (repeat' (first | apply And.intro | intro _)) <;> (first | rfl | omega | (split <;> (first | rfl | omega)))
set_option maxRecDepth 100000 in
theorem vc_set_39 (i : Int) (v : Int) (M : am_M) (Q : Option Value → am_M → Prop) (hv : zr i ∧ ((i < 0 → Q none M) ∧ (0 ≤ i → (i < 40 → (0 ≤ i ∧ i < 40) ∧ (∀ M2, M2 = zup M 40 i v → Q none M2)) ∧ (40 ≤ i → Q none M)))) : am_x t_Row_set (0, am_ent (am_mL t_Row_set) [.ref 39, .int (zi i), .int (zi v)], [], M) Q := by
  refine am_xn 0 (c1 := (0, [.ref 39, .int (zi i), .int (zi v)], [], M)) rfl ?_
  obtain ⟨r1, hv⟩ := hv
  refine am_xn 2 (c1 := (if zi i < zi 0 then 20 else 4, [.ref 39, .int (zi i), .int (zi v)], [], M)) rfl (am_xlt r1 (by decide) (fun h => ?_) (fun h => ?_))
  · replace hv := hv.1 h
    exact am_xr none ⟨rfl, rfl, rfl⟩ hv
  · replace hv := hv.2 h
    refine am_xn 5 (c1 := (if zi i < zi 40 then 13 else 20, [.ref 39, .int (zi i), .int (zi v)], [], M)) rfl (am_xlt r1 (by decide) (fun h => ?_) (fun h => ?_))
    · replace hv := hv.1 h
      obtain ⟨r3, hv⟩ := hv
      refine am_xn 4 (c1 := (19, [.ref 39, .int (zi i), .int (zi v)], [.int (zi v), .int (zi i), .ref 40], M)) rfl ?_
      refine am_xast rfl rfl rfl r3 ?_
      refine am_xn 0 (c1 := (20, [.ref 39, .int (zi i), .int (zi v)], [], zup M 40 i v)) rfl ?_
      obtain ⟨M2, eM2⟩ : ∃ m, m = zup M 40 i v := ⟨_, rfl⟩
      replace hv := hv M2 eM2
      rw [← eM2]
      exact am_xr none ⟨rfl, rfl, rfl⟩ hv
    · replace hv := hv.2 h
      exact am_xr none ⟨rfl, rfl, rfl⟩ hv
theorem sp_set_39 (M : am_M) (i : Int) (v : Int) (g : 0 ≤ i ∧ i < 40) : am_call t_Row_set [.ref 39, .int (zi i), .int (zi v)] M (none) (zup M 40 i v) := by
  refine am_call_of ⟨Nat.le_of_ble_eq_true rfl, rfl⟩ (vc_set_39 i v M _ ?_)
  have := g.1
  (repeat' (first | apply And.intro | intro _)) <;> (first | rfl | omega | (split <;> (first | rfl | omega)))
set_option maxRecDepth 100000 in
theorem vc_get_41 (i : Int) (M : am_M) (Q : Option Value → am_M → Prop) (hv : zr i ∧ ((i < 0 → Q (some (.int (zi 0))) M) ∧ (0 ≤ i → (i < 240 → (0 ≤ i ∧ i < 240) ∧ (Q (some (.int (zi (iv M 42 i)))) M)) ∧ (240 ≤ i → Q (some (.int (zi 0))) M)))) : am_x t_Row_get (0, am_ent (am_mL t_Row_get) [.ref 41, .int (zi i)], [], M) Q := by
  refine am_xn 0 (c1 := (0, [.ref 41, .int (zi i)], [], M)) rfl ?_
  obtain ⟨r1, hv⟩ := hv
  refine am_xn 2 (c1 := (if zi i < zi 0 then 22 else 4, [.ref 41, .int (zi i)], [], M)) rfl (am_xlt r1 (by decide) (fun h => ?_) (fun h => ?_))
  · replace hv := hv.1 h
    refine am_xn 1 (c1 := (23, [.ref 41, .int (zi i)], [.int (zi 0)], M)) rfl ?_
    exact am_xr (some (.int (zi 0))) ⟨rfl, rfl, .int, rfl, rfl⟩ hv
  · replace hv := hv.2 h
    refine am_xn 5 (c1 := (if zi i < zi 240 then 13 else 22, [.ref 41, .int (zi i)], [], M)) rfl (am_xlt r1 (by decide) (fun h => ?_) (fun h => ?_))
    · replace hv := hv.1 h
      obtain ⟨r2, hv⟩ := hv
      refine am_xn 3 (c1 := (18, [.ref 41, .int (zi i)], [.int (zi i), .ref 42], M)) rfl ?_
      refine am_xald rfl rfl rfl r2 ?_
      refine am_xn 0 (c1 := (19, [.ref 41, .int (zi i)], [.int (zi (iv M 42 i))], M)) rfl ?_
      refine am_xn 1 (c1 := (23, [.ref 41, .int (zi i)], [.int (zi (iv M 42 i))], M)) rfl ?_
      exact am_xr (some (.int (zi (iv M 42 i)))) ⟨rfl, rfl, .int, rfl, rfl⟩ hv
    · replace hv := hv.2 h
      refine am_xn 1 (c1 := (23, [.ref 41, .int (zi i)], [.int (zi 0)], M)) rfl ?_
      exact am_xr (some (.int (zi 0))) ⟨rfl, rfl, .int, rfl, rfl⟩ hv
theorem sp_get_41 (M : am_M) (i : Int) (g : 0 ≤ i ∧ i < 240) : am_call t_Row_get [.ref 41, .int (zi i)] M (some (.int (zi (iv M 42 i)))) M := by
  refine am_call_of ⟨Nat.le_of_ble_eq_true rfl, rfl⟩ (vc_get_41 i M _ ?_)
  (repeat' (first | apply And.intro | intro _)) <;> (first | rfl | omega | (split <;> (first | rfl | omega)))
set_option maxRecDepth 100000 in
theorem vc_set_41 (i : Int) (v : Int) (M : am_M) (Q : Option Value → am_M → Prop) (hv : zr i ∧ ((i < 0 → Q none M) ∧ (0 ≤ i → (i < 240 → (0 ≤ i ∧ i < 240) ∧ (∀ M2, M2 = zup M 42 i v → Q none M2)) ∧ (240 ≤ i → Q none M)))) : am_x t_Row_set (0, am_ent (am_mL t_Row_set) [.ref 41, .int (zi i), .int (zi v)], [], M) Q := by
  refine am_xn 0 (c1 := (0, [.ref 41, .int (zi i), .int (zi v)], [], M)) rfl ?_
  obtain ⟨r1, hv⟩ := hv
  refine am_xn 2 (c1 := (if zi i < zi 0 then 20 else 4, [.ref 41, .int (zi i), .int (zi v)], [], M)) rfl (am_xlt r1 (by decide) (fun h => ?_) (fun h => ?_))
  · replace hv := hv.1 h
    exact am_xr none ⟨rfl, rfl, rfl⟩ hv
  · replace hv := hv.2 h
    refine am_xn 5 (c1 := (if zi i < zi 240 then 13 else 20, [.ref 41, .int (zi i), .int (zi v)], [], M)) rfl (am_xlt r1 (by decide) (fun h => ?_) (fun h => ?_))
    · replace hv := hv.1 h
      obtain ⟨r3, hv⟩ := hv
      refine am_xn 4 (c1 := (19, [.ref 41, .int (zi i), .int (zi v)], [.int (zi v), .int (zi i), .ref 42], M)) rfl ?_
      refine am_xast rfl rfl rfl r3 ?_
      refine am_xn 0 (c1 := (20, [.ref 41, .int (zi i), .int (zi v)], [], zup M 42 i v)) rfl ?_
      obtain ⟨M2, eM2⟩ : ∃ m, m = zup M 42 i v := ⟨_, rfl⟩
      replace hv := hv M2 eM2
      rw [← eM2]
      exact am_xr none ⟨rfl, rfl, rfl⟩ hv
    · replace hv := hv.2 h
      exact am_xr none ⟨rfl, rfl, rfl⟩ hv
theorem sp_set_41 (M : am_M) (i : Int) (v : Int) (g : 0 ≤ i ∧ i < 240) : am_call t_Row_set [.ref 41, .int (zi i), .int (zi v)] M (none) (zup M 42 i v) := by
  refine am_call_of ⟨Nat.le_of_ble_eq_true rfl, rfl⟩ (vc_set_41 i v M _ ?_)
  have := g.1
  (repeat' (first | apply And.intro | intro _)) <;> (first | rfl | omega | (split <;> (first | rfl | omega)))
set_option maxRecDepth 100000 in
theorem vc_get_43 (i : Int) (M : am_M) (Q : Option Value → am_M → Prop) (hv : zr i ∧ ((i < 0 → Q (some (.int (zi 0))) M) ∧ (0 ≤ i → (i < 40 → (0 ≤ i ∧ i < 40) ∧ (Q (some (.int (zi (iv M 44 i)))) M)) ∧ (40 ≤ i → Q (some (.int (zi 0))) M)))) : am_x t_Row_get (0, am_ent (am_mL t_Row_get) [.ref 43, .int (zi i)], [], M) Q := by
  refine am_xn 0 (c1 := (0, [.ref 43, .int (zi i)], [], M)) rfl ?_
  obtain ⟨r1, hv⟩ := hv
  refine am_xn 2 (c1 := (if zi i < zi 0 then 22 else 4, [.ref 43, .int (zi i)], [], M)) rfl (am_xlt r1 (by decide) (fun h => ?_) (fun h => ?_))
  · replace hv := hv.1 h
    refine am_xn 1 (c1 := (23, [.ref 43, .int (zi i)], [.int (zi 0)], M)) rfl ?_
    exact am_xr (some (.int (zi 0))) ⟨rfl, rfl, .int, rfl, rfl⟩ hv
  · replace hv := hv.2 h
    refine am_xn 5 (c1 := (if zi i < zi 40 then 13 else 22, [.ref 43, .int (zi i)], [], M)) rfl (am_xlt r1 (by decide) (fun h => ?_) (fun h => ?_))
    · replace hv := hv.1 h
      obtain ⟨r2, hv⟩ := hv
      refine am_xn 3 (c1 := (18, [.ref 43, .int (zi i)], [.int (zi i), .ref 44], M)) rfl ?_
      refine am_xald rfl rfl rfl r2 ?_
      refine am_xn 0 (c1 := (19, [.ref 43, .int (zi i)], [.int (zi (iv M 44 i))], M)) rfl ?_
      refine am_xn 1 (c1 := (23, [.ref 43, .int (zi i)], [.int (zi (iv M 44 i))], M)) rfl ?_
      exact am_xr (some (.int (zi (iv M 44 i)))) ⟨rfl, rfl, .int, rfl, rfl⟩ hv
    · replace hv := hv.2 h
      refine am_xn 1 (c1 := (23, [.ref 43, .int (zi i)], [.int (zi 0)], M)) rfl ?_
      exact am_xr (some (.int (zi 0))) ⟨rfl, rfl, .int, rfl, rfl⟩ hv
theorem sp_get_43 (M : am_M) (i : Int) (g : 0 ≤ i ∧ i < 40) : am_call t_Row_get [.ref 43, .int (zi i)] M (some (.int (zi (iv M 44 i)))) M := by
  refine am_call_of ⟨Nat.le_of_ble_eq_true rfl, rfl⟩ (vc_get_43 i M _ ?_)
  (repeat' (first | apply And.intro | intro _)) <;> (first | rfl | omega | (split <;> (first | rfl | omega)))
set_option maxRecDepth 100000 in
theorem vc_set_43 (i : Int) (v : Int) (M : am_M) (Q : Option Value → am_M → Prop) (hv : zr i ∧ ((i < 0 → Q none M) ∧ (0 ≤ i → (i < 40 → (0 ≤ i ∧ i < 40) ∧ (∀ M2, M2 = zup M 44 i v → Q none M2)) ∧ (40 ≤ i → Q none M)))) : am_x t_Row_set (0, am_ent (am_mL t_Row_set) [.ref 43, .int (zi i), .int (zi v)], [], M) Q := by
  refine am_xn 0 (c1 := (0, [.ref 43, .int (zi i), .int (zi v)], [], M)) rfl ?_
  obtain ⟨r1, hv⟩ := hv
  refine am_xn 2 (c1 := (if zi i < zi 0 then 20 else 4, [.ref 43, .int (zi i), .int (zi v)], [], M)) rfl (am_xlt r1 (by decide) (fun h => ?_) (fun h => ?_))
  · replace hv := hv.1 h
    exact am_xr none ⟨rfl, rfl, rfl⟩ hv
  · replace hv := hv.2 h
    refine am_xn 5 (c1 := (if zi i < zi 40 then 13 else 20, [.ref 43, .int (zi i), .int (zi v)], [], M)) rfl (am_xlt r1 (by decide) (fun h => ?_) (fun h => ?_))
    · replace hv := hv.1 h
      obtain ⟨r3, hv⟩ := hv
      refine am_xn 4 (c1 := (19, [.ref 43, .int (zi i), .int (zi v)], [.int (zi v), .int (zi i), .ref 44], M)) rfl ?_
      refine am_xast rfl rfl rfl r3 ?_
      refine am_xn 0 (c1 := (20, [.ref 43, .int (zi i), .int (zi v)], [], zup M 44 i v)) rfl ?_
      obtain ⟨M2, eM2⟩ : ∃ m, m = zup M 44 i v := ⟨_, rfl⟩
      replace hv := hv M2 eM2
      rw [← eM2]
      exact am_xr none ⟨rfl, rfl, rfl⟩ hv
    · replace hv := hv.2 h
      exact am_xr none ⟨rfl, rfl, rfl⟩ hv
theorem sp_set_43 (M : am_M) (i : Int) (v : Int) (g : 0 ≤ i ∧ i < 40) : am_call t_Row_set [.ref 43, .int (zi i), .int (zi v)] M (none) (zup M 44 i v) := by
  refine am_call_of ⟨Nat.le_of_ble_eq_true rfl, rfl⟩ (vc_set_43 i v M _ ?_)
  have := g.1
  (repeat' (first | apply And.intro | intro _)) <;> (first | rfl | omega | (split <;> (first | rfl | omega)))
set_option maxRecDepth 100000 in
theorem vc_get_45 (i : Int) (M : am_M) (Q : Option Value → am_M → Prop) (hv : zr i ∧ ((i < 0 → Q (some (.int (zi 0))) M) ∧ (0 ≤ i → (i < 120 → (0 ≤ i ∧ i < 120) ∧ (Q (some (.int (zi (iv M 46 i)))) M)) ∧ (120 ≤ i → Q (some (.int (zi 0))) M)))) : am_x t_Row_get (0, am_ent (am_mL t_Row_get) [.ref 45, .int (zi i)], [], M) Q := by
  refine am_xn 0 (c1 := (0, [.ref 45, .int (zi i)], [], M)) rfl ?_
  obtain ⟨r1, hv⟩ := hv
  refine am_xn 2 (c1 := (if zi i < zi 0 then 22 else 4, [.ref 45, .int (zi i)], [], M)) rfl (am_xlt r1 (by decide) (fun h => ?_) (fun h => ?_))
  · replace hv := hv.1 h
    refine am_xn 1 (c1 := (23, [.ref 45, .int (zi i)], [.int (zi 0)], M)) rfl ?_
    exact am_xr (some (.int (zi 0))) ⟨rfl, rfl, .int, rfl, rfl⟩ hv
  · replace hv := hv.2 h
    refine am_xn 5 (c1 := (if zi i < zi 120 then 13 else 22, [.ref 45, .int (zi i)], [], M)) rfl (am_xlt r1 (by decide) (fun h => ?_) (fun h => ?_))
    · replace hv := hv.1 h
      obtain ⟨r2, hv⟩ := hv
      refine am_xn 3 (c1 := (18, [.ref 45, .int (zi i)], [.int (zi i), .ref 46], M)) rfl ?_
      refine am_xald rfl rfl rfl r2 ?_
      refine am_xn 0 (c1 := (19, [.ref 45, .int (zi i)], [.int (zi (iv M 46 i))], M)) rfl ?_
      refine am_xn 1 (c1 := (23, [.ref 45, .int (zi i)], [.int (zi (iv M 46 i))], M)) rfl ?_
      exact am_xr (some (.int (zi (iv M 46 i)))) ⟨rfl, rfl, .int, rfl, rfl⟩ hv
    · replace hv := hv.2 h
      refine am_xn 1 (c1 := (23, [.ref 45, .int (zi i)], [.int (zi 0)], M)) rfl ?_
      exact am_xr (some (.int (zi 0))) ⟨rfl, rfl, .int, rfl, rfl⟩ hv
theorem sp_get_45 (M : am_M) (i : Int) (g : 0 ≤ i ∧ i < 120) : am_call t_Row_get [.ref 45, .int (zi i)] M (some (.int (zi (iv M 46 i)))) M := by
  refine am_call_of ⟨Nat.le_of_ble_eq_true rfl, rfl⟩ (vc_get_45 i M _ ?_)
  (repeat' (first | apply And.intro | intro _)) <;> (first | rfl | omega | (split <;> (first | rfl | omega)))
set_option maxRecDepth 100000 in
theorem vc_set_45 (i : Int) (v : Int) (M : am_M) (Q : Option Value → am_M → Prop) (hv : zr i ∧ ((i < 0 → Q none M) ∧ (0 ≤ i → (i < 120 → (0 ≤ i ∧ i < 120) ∧ (∀ M2, M2 = zup M 46 i v → Q none M2)) ∧ (120 ≤ i → Q none M)))) : am_x t_Row_set (0, am_ent (am_mL t_Row_set) [.ref 45, .int (zi i), .int (zi v)], [], M) Q := by
  refine am_xn 0 (c1 := (0, [.ref 45, .int (zi i), .int (zi v)], [], M)) rfl ?_
  obtain ⟨r1, hv⟩ := hv
  refine am_xn 2 (c1 := (if zi i < zi 0 then 20 else 4, [.ref 45, .int (zi i), .int (zi v)], [], M)) rfl (am_xlt r1 (by decide) (fun h => ?_) (fun h => ?_))
  · replace hv := hv.1 h
    exact am_xr none ⟨rfl, rfl, rfl⟩ hv
  · replace hv := hv.2 h
    refine am_xn 5 (c1 := (if zi i < zi 120 then 13 else 20, [.ref 45, .int (zi i), .int (zi v)], [], M)) rfl (am_xlt r1 (by decide) (fun h => ?_) (fun h => ?_))
    · replace hv := hv.1 h
      obtain ⟨r3, hv⟩ := hv
      refine am_xn 4 (c1 := (19, [.ref 45, .int (zi i), .int (zi v)], [.int (zi v), .int (zi i), .ref 46], M)) rfl ?_
      refine am_xast rfl rfl rfl r3 ?_
      refine am_xn 0 (c1 := (20, [.ref 45, .int (zi i), .int (zi v)], [], zup M 46 i v)) rfl ?_
      obtain ⟨M2, eM2⟩ : ∃ m, m = zup M 46 i v := ⟨_, rfl⟩
      replace hv := hv M2 eM2
      rw [← eM2]
      exact am_xr none ⟨rfl, rfl, rfl⟩ hv
    · replace hv := hv.2 h
      exact am_xr none ⟨rfl, rfl, rfl⟩ hv
theorem sp_set_45 (M : am_M) (i : Int) (v : Int) (g : 0 ≤ i ∧ i < 120) : am_call t_Row_set [.ref 45, .int (zi i), .int (zi v)] M (none) (zup M 46 i v) := by
  refine am_call_of ⟨Nat.le_of_ble_eq_true rfl, rfl⟩ (vc_set_45 i v M _ ?_)
  have := g.1
  (repeat' (first | apply And.intro | intro _)) <;> (first | rfl | omega | (split <;> (first | rfl | omega)))
set_option maxRecDepth 100000 in
theorem vc_get_47 (i : Int) (M : am_M) (Q : Option Value → am_M → Prop) (hv : zr i ∧ ((i < 0 → Q (some (.int (zi 0))) M) ∧ (0 ≤ i → (i < 120 → (0 ≤ i ∧ i < 120) ∧ (Q (some (.int (zi (iv M 48 i)))) M)) ∧ (120 ≤ i → Q (some (.int (zi 0))) M)))) : am_x t_Row_get (0, am_ent (am_mL t_Row_get) [.ref 47, .int (zi i)], [], M) Q := by
  refine am_xn 0 (c1 := (0, [.ref 47, .int (zi i)], [], M)) rfl ?_
  obtain ⟨r1, hv⟩ := hv
  refine am_xn 2 (c1 := (if zi i < zi 0 then 22 else 4, [.ref 47, .int (zi i)], [], M)) rfl (am_xlt r1 (by decide) (fun h => ?_) (fun h => ?_))
  · replace hv := hv.1 h
    refine am_xn 1 (c1 := (23, [.ref 47, .int (zi i)], [.int (zi 0)], M)) rfl ?_
    exact am_xr (some (.int (zi 0))) ⟨rfl, rfl, .int, rfl, rfl⟩ hv
  · replace hv := hv.2 h
    refine am_xn 5 (c1 := (if zi i < zi 120 then 13 else 22, [.ref 47, .int (zi i)], [], M)) rfl (am_xlt r1 (by decide) (fun h => ?_) (fun h => ?_))
    · replace hv := hv.1 h
      obtain ⟨r2, hv⟩ := hv
      refine am_xn 3 (c1 := (18, [.ref 47, .int (zi i)], [.int (zi i), .ref 48], M)) rfl ?_
      refine am_xald rfl rfl rfl r2 ?_
      refine am_xn 0 (c1 := (19, [.ref 47, .int (zi i)], [.int (zi (iv M 48 i))], M)) rfl ?_
      refine am_xn 1 (c1 := (23, [.ref 47, .int (zi i)], [.int (zi (iv M 48 i))], M)) rfl ?_
      exact am_xr (some (.int (zi (iv M 48 i)))) ⟨rfl, rfl, .int, rfl, rfl⟩ hv
    · replace hv := hv.2 h
      refine am_xn 1 (c1 := (23, [.ref 47, .int (zi i)], [.int (zi 0)], M)) rfl ?_
      exact am_xr (some (.int (zi 0))) ⟨rfl, rfl, .int, rfl, rfl⟩ hv
theorem sp_get_47 (M : am_M) (i : Int) (g : 0 ≤ i ∧ i < 120) : am_call t_Row_get [.ref 47, .int (zi i)] M (some (.int (zi (iv M 48 i)))) M := by
  refine am_call_of ⟨Nat.le_of_ble_eq_true rfl, rfl⟩ (vc_get_47 i M _ ?_)
  (repeat' (first | apply And.intro | intro _)) <;> (first | rfl | omega | (split <;> (first | rfl | omega)))
set_option maxRecDepth 100000 in
theorem vc_set_47 (i : Int) (v : Int) (M : am_M) (Q : Option Value → am_M → Prop) (hv : zr i ∧ ((i < 0 → Q none M) ∧ (0 ≤ i → (i < 120 → (0 ≤ i ∧ i < 120) ∧ (∀ M2, M2 = zup M 48 i v → Q none M2)) ∧ (120 ≤ i → Q none M)))) : am_x t_Row_set (0, am_ent (am_mL t_Row_set) [.ref 47, .int (zi i), .int (zi v)], [], M) Q := by
  refine am_xn 0 (c1 := (0, [.ref 47, .int (zi i), .int (zi v)], [], M)) rfl ?_
  obtain ⟨r1, hv⟩ := hv
  refine am_xn 2 (c1 := (if zi i < zi 0 then 20 else 4, [.ref 47, .int (zi i), .int (zi v)], [], M)) rfl (am_xlt r1 (by decide) (fun h => ?_) (fun h => ?_))
  · replace hv := hv.1 h
    exact am_xr none ⟨rfl, rfl, rfl⟩ hv
  · replace hv := hv.2 h
    refine am_xn 5 (c1 := (if zi i < zi 120 then 13 else 20, [.ref 47, .int (zi i), .int (zi v)], [], M)) rfl (am_xlt r1 (by decide) (fun h => ?_) (fun h => ?_))
    · replace hv := hv.1 h
      obtain ⟨r3, hv⟩ := hv
      refine am_xn 4 (c1 := (19, [.ref 47, .int (zi i), .int (zi v)], [.int (zi v), .int (zi i), .ref 48], M)) rfl ?_
      refine am_xast rfl rfl rfl r3 ?_
      refine am_xn 0 (c1 := (20, [.ref 47, .int (zi i), .int (zi v)], [], zup M 48 i v)) rfl ?_
      obtain ⟨M2, eM2⟩ : ∃ m, m = zup M 48 i v := ⟨_, rfl⟩
      replace hv := hv M2 eM2
      rw [← eM2]
      exact am_xr none ⟨rfl, rfl, rfl⟩ hv
    · replace hv := hv.2 h
      exact am_xr none ⟨rfl, rfl, rfl⟩ hv
theorem sp_set_47 (M : am_M) (i : Int) (v : Int) (g : 0 ≤ i ∧ i < 120) : am_call t_Row_set [.ref 47, .int (zi i), .int (zi v)] M (none) (zup M 48 i v) := by
  refine am_call_of ⟨Nat.le_of_ble_eq_true rfl, rfl⟩ (vc_set_47 i v M _ ?_)
  have := g.1
  (repeat' (first | apply And.intro | intro _)) <;> (first | rfl | omega | (split <;> (first | rfl | omega)))
set_option maxRecDepth 100000 in
theorem vc_get_49 (i : Int) (M : am_M) (Q : Option Value → am_M → Prop) (hv : zr i ∧ ((i < 0 → Q (some (.int (zi 0))) M) ∧ (0 ≤ i → (i < 120 → (0 ≤ i ∧ i < 120) ∧ (Q (some (.int (zi (iv M 50 i)))) M)) ∧ (120 ≤ i → Q (some (.int (zi 0))) M)))) : am_x t_Row_get (0, am_ent (am_mL t_Row_get) [.ref 49, .int (zi i)], [], M) Q := by
  refine am_xn 0 (c1 := (0, [.ref 49, .int (zi i)], [], M)) rfl ?_
  obtain ⟨r1, hv⟩ := hv
  refine am_xn 2 (c1 := (if zi i < zi 0 then 22 else 4, [.ref 49, .int (zi i)], [], M)) rfl (am_xlt r1 (by decide) (fun h => ?_) (fun h => ?_))
  · replace hv := hv.1 h
    refine am_xn 1 (c1 := (23, [.ref 49, .int (zi i)], [.int (zi 0)], M)) rfl ?_
    exact am_xr (some (.int (zi 0))) ⟨rfl, rfl, .int, rfl, rfl⟩ hv
  · replace hv := hv.2 h
    refine am_xn 5 (c1 := (if zi i < zi 120 then 13 else 22, [.ref 49, .int (zi i)], [], M)) rfl (am_xlt r1 (by decide) (fun h => ?_) (fun h => ?_))
    · replace hv := hv.1 h
      obtain ⟨r2, hv⟩ := hv
      refine am_xn 3 (c1 := (18, [.ref 49, .int (zi i)], [.int (zi i), .ref 50], M)) rfl ?_
      refine am_xald rfl rfl rfl r2 ?_
      refine am_xn 0 (c1 := (19, [.ref 49, .int (zi i)], [.int (zi (iv M 50 i))], M)) rfl ?_
      refine am_xn 1 (c1 := (23, [.ref 49, .int (zi i)], [.int (zi (iv M 50 i))], M)) rfl ?_
      exact am_xr (some (.int (zi (iv M 50 i)))) ⟨rfl, rfl, .int, rfl, rfl⟩ hv
    · replace hv := hv.2 h
      refine am_xn 1 (c1 := (23, [.ref 49, .int (zi i)], [.int (zi 0)], M)) rfl ?_
      exact am_xr (some (.int (zi 0))) ⟨rfl, rfl, .int, rfl, rfl⟩ hv
theorem sp_get_49 (M : am_M) (i : Int) (g : 0 ≤ i ∧ i < 120) : am_call t_Row_get [.ref 49, .int (zi i)] M (some (.int (zi (iv M 50 i)))) M := by
  refine am_call_of ⟨Nat.le_of_ble_eq_true rfl, rfl⟩ (vc_get_49 i M _ ?_)
  (repeat' (first | apply And.intro | intro _)) <;> (first | rfl | omega | (split <;> (first | rfl | omega)))
set_option maxRecDepth 100000 in
theorem vc_set_49 (i : Int) (v : Int) (M : am_M) (Q : Option Value → am_M → Prop) (hv : zr i ∧ ((i < 0 → Q none M) ∧ (0 ≤ i → (i < 120 → (0 ≤ i ∧ i < 120) ∧ (∀ M2, M2 = zup M 50 i v → Q none M2)) ∧ (120 ≤ i → Q none M)))) : am_x t_Row_set (0, am_ent (am_mL t_Row_set) [.ref 49, .int (zi i), .int (zi v)], [], M) Q := by
  refine am_xn 0 (c1 := (0, [.ref 49, .int (zi i), .int (zi v)], [], M)) rfl ?_
  obtain ⟨r1, hv⟩ := hv
  refine am_xn 2 (c1 := (if zi i < zi 0 then 20 else 4, [.ref 49, .int (zi i), .int (zi v)], [], M)) rfl (am_xlt r1 (by decide) (fun h => ?_) (fun h => ?_))
  · replace hv := hv.1 h
    exact am_xr none ⟨rfl, rfl, rfl⟩ hv
  · replace hv := hv.2 h
    refine am_xn 5 (c1 := (if zi i < zi 120 then 13 else 20, [.ref 49, .int (zi i), .int (zi v)], [], M)) rfl (am_xlt r1 (by decide) (fun h => ?_) (fun h => ?_))
    · replace hv := hv.1 h
      obtain ⟨r3, hv⟩ := hv
      refine am_xn 4 (c1 := (19, [.ref 49, .int (zi i), .int (zi v)], [.int (zi v), .int (zi i), .ref 50], M)) rfl ?_
      refine am_xast rfl rfl rfl r3 ?_
      refine am_xn 0 (c1 := (20, [.ref 49, .int (zi i), .int (zi v)], [], zup M 50 i v)) rfl ?_
      obtain ⟨M2, eM2⟩ : ∃ m, m = zup M 50 i v := ⟨_, rfl⟩
      replace hv := hv M2 eM2
      rw [← eM2]
      exact am_xr none ⟨rfl, rfl, rfl⟩ hv
    · replace hv := hv.2 h
      exact am_xr none ⟨rfl, rfl, rfl⟩ hv
theorem sp_set_49 (M : am_M) (i : Int) (v : Int) (g : 0 ≤ i ∧ i < 120) : am_call t_Row_set [.ref 49, .int (zi i), .int (zi v)] M (none) (zup M 50 i v) := by
  refine am_call_of ⟨Nat.le_of_ble_eq_true rfl, rfl⟩ (vc_set_49 i v M _ ?_)
  have := g.1
  (repeat' (first | apply And.intro | intro _)) <;> (first | rfl | omega | (split <;> (first | rfl | omega)))
set_option maxRecDepth 100000 in
theorem vc_get_51 (i : Int) (M : am_M) (Q : Option Value → am_M → Prop) (hv : zr i ∧ ((i < 0 → Q (some (.int (zi 0))) M) ∧ (0 ≤ i → (i < 6 → (0 ≤ i ∧ i < 6) ∧ (Q (some (.int (zi (iv M 52 i)))) M)) ∧ (6 ≤ i → Q (some (.int (zi 0))) M)))) : am_x t_Row_get (0, am_ent (am_mL t_Row_get) [.ref 51, .int (zi i)], [], M) Q := by
  refine am_xn 0 (c1 := (0, [.ref 51, .int (zi i)], [], M)) rfl ?_
  obtain ⟨r1, hv⟩ := hv
  refine am_xn 2 (c1 := (if zi i < zi 0 then 22 else 4, [.ref 51, .int (zi i)], [], M)) rfl (am_xlt r1 (by decide) (fun h => ?_) (fun h => ?_))
  · replace hv := hv.1 h
    refine am_xn 1 (c1 := (23, [.ref 51, .int (zi i)], [.int (zi 0)], M)) rfl ?_
    exact am_xr (some (.int (zi 0))) ⟨rfl, rfl, .int, rfl, rfl⟩ hv
  · replace hv := hv.2 h
    refine am_xn 5 (c1 := (if zi i < zi 6 then 13 else 22, [.ref 51, .int (zi i)], [], M)) rfl (am_xlt r1 (by decide) (fun h => ?_) (fun h => ?_))
    · replace hv := hv.1 h
      obtain ⟨r2, hv⟩ := hv
      refine am_xn 3 (c1 := (18, [.ref 51, .int (zi i)], [.int (zi i), .ref 52], M)) rfl ?_
      refine am_xald rfl rfl rfl r2 ?_
      refine am_xn 0 (c1 := (19, [.ref 51, .int (zi i)], [.int (zi (iv M 52 i))], M)) rfl ?_
      refine am_xn 1 (c1 := (23, [.ref 51, .int (zi i)], [.int (zi (iv M 52 i))], M)) rfl ?_
      exact am_xr (some (.int (zi (iv M 52 i)))) ⟨rfl, rfl, .int, rfl, rfl⟩ hv
    · replace hv := hv.2 h
      refine am_xn 1 (c1 := (23, [.ref 51, .int (zi i)], [.int (zi 0)], M)) rfl ?_
      exact am_xr (some (.int (zi 0))) ⟨rfl, rfl, .int, rfl, rfl⟩ hv
theorem sp_get_51 (M : am_M) (i : Int) (g : 0 ≤ i ∧ i < 6) : am_call t_Row_get [.ref 51, .int (zi i)] M (some (.int (zi (iv M 52 i)))) M := by
  refine am_call_of ⟨Nat.le_of_ble_eq_true rfl, rfl⟩ (vc_get_51 i M _ ?_)
  (repeat' (first | apply And.intro | intro _)) <;> (first | rfl | omega | (split <;> (first | rfl | omega)))
set_option maxRecDepth 100000 in
theorem vc_set_51 (i : Int) (v : Int) (M : am_M) (Q : Option Value → am_M → Prop) (hv : zr i ∧ ((i < 0 → Q none M) ∧ (0 ≤ i → (i < 6 → (0 ≤ i ∧ i < 6) ∧ (∀ M2, M2 = zup M 52 i v → Q none M2)) ∧ (6 ≤ i → Q none M)))) : am_x t_Row_set (0, am_ent (am_mL t_Row_set) [.ref 51, .int (zi i), .int (zi v)], [], M) Q := by
  refine am_xn 0 (c1 := (0, [.ref 51, .int (zi i), .int (zi v)], [], M)) rfl ?_
  obtain ⟨r1, hv⟩ := hv
  refine am_xn 2 (c1 := (if zi i < zi 0 then 20 else 4, [.ref 51, .int (zi i), .int (zi v)], [], M)) rfl (am_xlt r1 (by decide) (fun h => ?_) (fun h => ?_))
  · replace hv := hv.1 h
    exact am_xr none ⟨rfl, rfl, rfl⟩ hv
  · replace hv := hv.2 h
    refine am_xn 5 (c1 := (if zi i < zi 6 then 13 else 20, [.ref 51, .int (zi i), .int (zi v)], [], M)) rfl (am_xlt r1 (by decide) (fun h => ?_) (fun h => ?_))
    · replace hv := hv.1 h
      obtain ⟨r3, hv⟩ := hv
      refine am_xn 4 (c1 := (19, [.ref 51, .int (zi i), .int (zi v)], [.int (zi v), .int (zi i), .ref 52], M)) rfl ?_
      refine am_xast rfl rfl rfl r3 ?_
      refine am_xn 0 (c1 := (20, [.ref 51, .int (zi i), .int (zi v)], [], zup M 52 i v)) rfl ?_
      obtain ⟨M2, eM2⟩ : ∃ m, m = zup M 52 i v := ⟨_, rfl⟩
      replace hv := hv M2 eM2
      rw [← eM2]
      exact am_xr none ⟨rfl, rfl, rfl⟩ hv
    · replace hv := hv.2 h
      exact am_xr none ⟨rfl, rfl, rfl⟩ hv
theorem sp_set_51 (M : am_M) (i : Int) (v : Int) (g : 0 ≤ i ∧ i < 6) : am_call t_Row_set [.ref 51, .int (zi i), .int (zi v)] M (none) (zup M 52 i v) := by
  refine am_call_of ⟨Nat.le_of_ble_eq_true rfl, rfl⟩ (vc_set_51 i v M _ ?_)
  have := g.1
  (repeat' (first | apply And.intro | intro _)) <;> (first | rfl | omega | (split <;> (first | rfl | omega)))
set_option maxRecDepth 100000 in
theorem vc_get_54 (i : Int) (M : am_M) (Q : Option Value → am_M → Prop) (hv : zr i ∧ ((i < 0 → Q (some (.int (zi 0))) M) ∧ (0 ≤ i → (i < 40 → (0 ≤ i ∧ i < 40) ∧ (Q (some (.int (zi (iv M 55 i)))) M)) ∧ (40 ≤ i → Q (some (.int (zi 0))) M)))) : am_x t_Row_get (0, am_ent (am_mL t_Row_get) [.ref 54, .int (zi i)], [], M) Q := by
  refine am_xn 0 (c1 := (0, [.ref 54, .int (zi i)], [], M)) rfl ?_
  obtain ⟨r1, hv⟩ := hv
  refine am_xn 2 (c1 := (if zi i < zi 0 then 22 else 4, [.ref 54, .int (zi i)], [], M)) rfl (am_xlt r1 (by decide) (fun h => ?_) (fun h => ?_))
  · replace hv := hv.1 h
    refine am_xn 1 (c1 := (23, [.ref 54, .int (zi i)], [.int (zi 0)], M)) rfl ?_
    exact am_xr (some (.int (zi 0))) ⟨rfl, rfl, .int, rfl, rfl⟩ hv
  · replace hv := hv.2 h
    refine am_xn 5 (c1 := (if zi i < zi 40 then 13 else 22, [.ref 54, .int (zi i)], [], M)) rfl (am_xlt r1 (by decide) (fun h => ?_) (fun h => ?_))
    · replace hv := hv.1 h
      obtain ⟨r2, hv⟩ := hv
      refine am_xn 3 (c1 := (18, [.ref 54, .int (zi i)], [.int (zi i), .ref 55], M)) rfl ?_
      refine am_xald rfl rfl rfl r2 ?_
      refine am_xn 0 (c1 := (19, [.ref 54, .int (zi i)], [.int (zi (iv M 55 i))], M)) rfl ?_
      refine am_xn 1 (c1 := (23, [.ref 54, .int (zi i)], [.int (zi (iv M 55 i))], M)) rfl ?_
      exact am_xr (some (.int (zi (iv M 55 i)))) ⟨rfl, rfl, .int, rfl, rfl⟩ hv
    · replace hv := hv.2 h
      refine am_xn 1 (c1 := (23, [.ref 54, .int (zi i)], [.int (zi 0)], M)) rfl ?_
      exact am_xr (some (.int (zi 0))) ⟨rfl, rfl, .int, rfl, rfl⟩ hv
theorem sp_get_54 (M : am_M) (i : Int) (g : 0 ≤ i ∧ i < 40) : am_call t_Row_get [.ref 54, .int (zi i)] M (some (.int (zi (iv M 55 i)))) M := by
  refine am_call_of ⟨Nat.le_of_ble_eq_true rfl, rfl⟩ (vc_get_54 i M _ ?_)
  (repeat' (first | apply And.intro | intro _)) <;> (first | rfl | omega | (split <;> (first | rfl | omega)))
set_option maxRecDepth 100000 in
theorem vc_set_54 (i : Int) (v : Int) (M : am_M) (Q : Option Value → am_M → Prop) (hv : zr i ∧ ((i < 0 → Q none M) ∧ (0 ≤ i → (i < 40 → (0 ≤ i ∧ i < 40) ∧ (∀ M2, M2 = zup M 55 i v → Q none M2)) ∧ (40 ≤ i → Q none M)))) : am_x t_Row_set (0, am_ent (am_mL t_Row_set) [.ref 54, .int (zi i), .int (zi v)], [], M) Q := by
  refine am_xn 0 (c1 := (0, [.ref 54, .int (zi i), .int (zi v)], [], M)) rfl ?_
  obtain ⟨r1, hv⟩ := hv
  refine am_xn 2 (c1 := (if zi i < zi 0 then 20 else 4, [.ref 54, .int (zi i), .int (zi v)], [], M)) rfl (am_xlt r1 (by decide) (fun h => ?_) (fun h => ?_))
  · replace hv := hv.1 h
    exact am_xr none ⟨rfl, rfl, rfl⟩ hv
  · replace hv := hv.2 h
    refine am_xn 5 (c1 := (if zi i < zi 40 then 13 else 20, [.ref 54, .int (zi i), .int (zi v)], [], M)) rfl (am_xlt r1 (by decide) (fun h => ?_) (fun h => ?_))
    · replace hv := hv.1 h
      obtain ⟨r3, hv⟩ := hv
      refine am_xn 4 (c1 := (19, [.ref 54, .int (zi i), .int (zi v)], [.int (zi v), .int (zi i), .ref 55], M)) rfl ?_
      refine am_xast rfl rfl rfl r3 ?_
      refine am_xn 0 (c1 := (20, [.ref 54, .int (zi i), .int (zi v)], [], zup M 55 i v)) rfl ?_
      obtain ⟨M2, eM2⟩ : ∃ m, m = zup M 55 i v := ⟨_, rfl⟩
      replace hv := hv M2 eM2
      rw [← eM2]
      exact am_xr none ⟨rfl, rfl, rfl⟩ hv
    · replace hv := hv.2 h
      exact am_xr none ⟨rfl, rfl, rfl⟩ hv
theorem sp_set_54 (M : am_M) (i : Int) (v : Int) (g : 0 ≤ i ∧ i < 40) : am_call t_Row_set [.ref 54, .int (zi i), .int (zi v)] M (none) (zup M 55 i v) := by
  refine am_call_of ⟨Nat.le_of_ble_eq_true rfl, rfl⟩ (vc_set_54 i v M _ ?_)
  have := g.1
  (repeat' (first | apply And.intro | intro _)) <;> (first | rfl | omega | (split <;> (first | rfl | omega)))
set_option maxRecDepth 100000 in
theorem vc_get_56 (i : Int) (M : am_M) (Q : Option Value → am_M → Prop) (hv : zr i ∧ ((i < 0 → Q (some (.int (zi 0))) M) ∧ (0 ≤ i → (i < 40 → (0 ≤ i ∧ i < 40) ∧ (Q (some (.int (zi (iv M 57 i)))) M)) ∧ (40 ≤ i → Q (some (.int (zi 0))) M)))) : am_x t_Row_get (0, am_ent (am_mL t_Row_get) [.ref 56, .int (zi i)], [], M) Q := by
  refine am_xn 0 (c1 := (0, [.ref 56, .int (zi i)], [], M)) rfl ?_
  obtain ⟨r1, hv⟩ := hv
  refine am_xn 2 (c1 := (if zi i < zi 0 then 22 else 4, [.ref 56, .int (zi i)], [], M)) rfl (am_xlt r1 (by decide) (fun h => ?_) (fun h => ?_))
  · replace hv := hv.1 h
    refine am_xn 1 (c1 := (23, [.ref 56, .int (zi i)], [.int (zi 0)], M)) rfl ?_
    exact am_xr (some (.int (zi 0))) ⟨rfl, rfl, .int, rfl, rfl⟩ hv
  · replace hv := hv.2 h
    refine am_xn 5 (c1 := (if zi i < zi 40 then 13 else 22, [.ref 56, .int (zi i)], [], M)) rfl (am_xlt r1 (by decide) (fun h => ?_) (fun h => ?_))
    · replace hv := hv.1 h
      obtain ⟨r2, hv⟩ := hv
      refine am_xn 3 (c1 := (18, [.ref 56, .int (zi i)], [.int (zi i), .ref 57], M)) rfl ?_
      refine am_xald rfl rfl rfl r2 ?_
      refine am_xn 0 (c1 := (19, [.ref 56, .int (zi i)], [.int (zi (iv M 57 i))], M)) rfl ?_
      refine am_xn 1 (c1 := (23, [.ref 56, .int (zi i)], [.int (zi (iv M 57 i))], M)) rfl ?_
      exact am_xr (some (.int (zi (iv M 57 i)))) ⟨rfl, rfl, .int, rfl, rfl⟩ hv
    · replace hv := hv.2 h
      refine am_xn 1 (c1 := (23, [.ref 56, .int (zi i)], [.int (zi 0)], M)) rfl ?_
      exact am_xr (some (.int (zi 0))) ⟨rfl, rfl, .int, rfl, rfl⟩ hv
theorem sp_get_56 (M : am_M) (i : Int) (g : 0 ≤ i ∧ i < 40) : am_call t_Row_get [.ref 56, .int (zi i)] M (some (.int (zi (iv M 57 i)))) M := by
  refine am_call_of ⟨Nat.le_of_ble_eq_true rfl, rfl⟩ (vc_get_56 i M _ ?_)
  (repeat' (first | apply And.intro | intro _)) <;> (first | rfl | omega | (split <;> (first | rfl | omega)))
set_option maxRecDepth 100000 in
theorem vc_set_56 (i : Int) (v : Int) (M : am_M) (Q : Option Value → am_M → Prop) (hv : zr i ∧ ((i < 0 → Q none M) ∧ (0 ≤ i → (i < 40 → (0 ≤ i ∧ i < 40) ∧ (∀ M2, M2 = zup M 57 i v → Q none M2)) ∧ (40 ≤ i → Q none M)))) : am_x t_Row_set (0, am_ent (am_mL t_Row_set) [.ref 56, .int (zi i), .int (zi v)], [], M) Q := by
  refine am_xn 0 (c1 := (0, [.ref 56, .int (zi i), .int (zi v)], [], M)) rfl ?_
  obtain ⟨r1, hv⟩ := hv
  refine am_xn 2 (c1 := (if zi i < zi 0 then 20 else 4, [.ref 56, .int (zi i), .int (zi v)], [], M)) rfl (am_xlt r1 (by decide) (fun h => ?_) (fun h => ?_))
  · replace hv := hv.1 h
    exact am_xr none ⟨rfl, rfl, rfl⟩ hv
  · replace hv := hv.2 h
    refine am_xn 5 (c1 := (if zi i < zi 40 then 13 else 20, [.ref 56, .int (zi i), .int (zi v)], [], M)) rfl (am_xlt r1 (by decide) (fun h => ?_) (fun h => ?_))
    · replace hv := hv.1 h
      obtain ⟨r3, hv⟩ := hv
      refine am_xn 4 (c1 := (19, [.ref 56, .int (zi i), .int (zi v)], [.int (zi v), .int (zi i), .ref 57], M)) rfl ?_
      refine am_xast rfl rfl rfl r3 ?_
      refine am_xn 0 (c1 := (20, [.ref 56, .int (zi i), .int (zi v)], [], zup M 57 i v)) rfl ?_
      obtain ⟨M2, eM2⟩ : ∃ m, m = zup M 57 i v := ⟨_, rfl⟩
      replace hv := hv M2 eM2
      rw [← eM2]
      exact am_xr none ⟨rfl, rfl, rfl⟩ hv
    · replace hv := hv.2 h
      exact am_xr none ⟨rfl, rfl, rfl⟩ hv
theorem sp_set_56 (M : am_M) (i : Int) (v : Int) (g : 0 ≤ i ∧ i < 40) : am_call t_Row_set [.ref 56, .int (zi i), .int (zi v)] M (none) (zup M 57 i v) := by
  refine am_call_of ⟨Nat.le_of_ble_eq_true rfl, rfl⟩ (vc_set_56 i v M _ ?_)
  have := g.1
  (repeat' (first | apply And.intro | intro _)) <;> (first | rfl | omega | (split <;> (first | rfl | omega)))
set_option maxRecDepth 100000 in
theorem vc_fill_17 (v : Int) (M : am_M) (Q : Option Value → am_M → Prop) (hv : am_x t_Arr_fill (5, [.ref 17, .int (zi v), .int (zi 0), .int (zi 40)], [], M) Q) : am_x t_Arr_fill (0, am_ent (am_mL t_Arr_fill) [.ref 17, .int (zi v)], [], M) Q := by
  refine am_xn 0 (c1 := (0, [.ref 17, .int (zi v), .null, .null], [], M)) rfl ?_
  refine am_xn 5 (c1 := (5, [.ref 17, .int (zi v), .int (zi 0), .int (zi 40)], [], M)) rfl ?_
  exact hv
set_option maxRecDepth 100000 in
theorem vc_fill_17_5 (x1 : Int) (x2 : Int) (x3 : Int) (M : am_M) (Q : Option Value → am_M → Prop) (hv : zr x2 ∧ (zr x3 ∧ ((x2 < x3 → (0 ≤ x2 ∧ x2 < 40) ∧ (∀ M3, M3 = zup M 17 x2 x1 → am_x t_Arr_fill (5, [.ref 17, .int (zi x1), .int (zi (x2 + 1)), .int (zi x3)], [], M3) Q)) ∧ (x3 ≤ x2 → Q none M)))) : am_x t_Arr_fill (5, [.ref 17, .int (zi x1), .int (zi x2), .int (zi x3)], [], M) Q := by
  obtain ⟨r1, hv⟩ := hv
  obtain ⟨r2, hv⟩ := hv
  refine am_xn 3 (c1 := (if zi x2 < zi x3 then 10 else 20, [.ref 17, .int (zi x1), .int (zi x2), .int (zi x3)], [], M)) rfl (am_xlt r1 r2 (fun h => ?_) (fun h => ?_))
  · replace hv := hv.1 h
    obtain ⟨r4, hv⟩ := hv
    refine am_xn 3 (c1 := (13, [.ref 17, .int (zi x1), .int (zi x2), .int (zi x3)], [.int (zi x1), .int (zi x2), .ref 17], M)) rfl ?_
    refine am_xast rfl rfl rfl r4 ?_
    refine am_xn 0 (c1 := (14, [.ref 17, .int (zi x1), .int (zi x2), .int (zi x3)], [], zup M 17 x2 x1)) rfl ?_
    obtain ⟨M3, eM3⟩ : ∃ m, m = zup M 17 x2 x1 := ⟨_, rfl⟩
    replace hv := hv M3 eM3
    rw [← eM3]
    refine am_xn 1 (c1 := (17, [.ref 17, .int (zi x1), .int (zi x2 + zi 1), .int (zi x3)], [], M3)) rfl ?_
    rw [zi_add]
    refine am_xn 1 (c1 := (5, [.ref 17, .int (zi x1), .int (zi (x2 + 1)), .int (zi x3)], [], M3)) rfl ?_
    exact hv
  · replace hv := hv.2 h
    exact am_xr none ⟨rfl, rfl, rfl⟩ hv
theorem fill_17_loop (M0 : am_M) (v : Int) : ∀ (k : Nat) (i : Int) (M : am_M), 0 ≤ i → i + k = 40 → (∀ b j, M b j = if b = 17 ∧ j < i.toNat then zi v else M0 b j) → am_x t_Arr_fill (5, [.ref 17, .int (zi v), .int (zi i), .int (zi 40)], [], M) (fun r m => r = none ∧ m = zfl M0 17 40 v) := by
  intro k
  induction k with
  | zero =>
    intro i M h0 h1 hM
    refine vc_fill_17_5 v i 40 M _ ⟨⟨by omega, by omega⟩, by decide, fun h => by omega, fun _ => ⟨rfl, ?_⟩⟩
    funext b j
    rw [hM, show i.toNat = 40 by omega]
    rfl
  | succ k ih =>
    intro i M h0 h1 hM
    refine vc_fill_17_5 v i 40 M _ ⟨⟨by omega, by omega⟩, by decide, fun h => ⟨⟨h0, by omega⟩, fun M2 e => ih (i + 1) M2 (by omega) (by omega) ?_⟩, fun h => by omega⟩
    intro b j
    rw [e]
    unfold zup am_up
    rw [hM]
    by_cases hb : b = 17
    · by_cases hj : j = i.toNat
      · rw [if_pos hb, if_pos hj, if_pos ⟨hb, by omega⟩]
      · rw [if_pos hb, if_neg hj]
        by_cases h2 : j < i.toNat
        · rw [if_pos ⟨hb, h2⟩, if_pos ⟨hb, by omega⟩]
        · rw [if_neg (by rintro ⟨_, q⟩; exact h2 q), if_neg (by rintro ⟨_, q⟩; omega)]
    · rw [if_neg hb, if_neg (fun q => hb q.1), if_neg (fun q => hb q.1)]
theorem sp_afill_17 (M : am_M) (v : Int) : am_call t_Arr_fill [.ref 17, .int (zi v)] M none (zfl M 17 40 v) := by
  refine am_call_of ⟨Nat.le_of_ble_eq_true rfl, rfl⟩ (vc_fill_17 v M _ ?_)
  refine fill_17_loop M v 40 0 M (by omega) (by omega) ?_
  intro b j
  rw [if_neg (by rintro ⟨_, q⟩; omega)]
set_option maxRecDepth 100000 in
theorem vc_fill_27 (v : Int) (M : am_M) (Q : Option Value → am_M → Prop) (hv : am_x t_Arr_fill (5, [.ref 27, .int (zi v), .int (zi 0), .int (zi 120)], [], M) Q) : am_x t_Arr_fill (0, am_ent (am_mL t_Arr_fill) [.ref 27, .int (zi v)], [], M) Q := by
  refine am_xn 0 (c1 := (0, [.ref 27, .int (zi v), .null, .null], [], M)) rfl ?_
  refine am_xn 5 (c1 := (5, [.ref 27, .int (zi v), .int (zi 0), .int (zi 120)], [], M)) rfl ?_
  exact hv
set_option maxRecDepth 100000 in
theorem vc_fill_27_5 (x1 : Int) (x2 : Int) (x3 : Int) (M : am_M) (Q : Option Value → am_M → Prop) (hv : zr x2 ∧ (zr x3 ∧ ((x2 < x3 → (0 ≤ x2 ∧ x2 < 120) ∧ (∀ M3, M3 = zup M 27 x2 x1 → am_x t_Arr_fill (5, [.ref 27, .int (zi x1), .int (zi (x2 + 1)), .int (zi x3)], [], M3) Q)) ∧ (x3 ≤ x2 → Q none M)))) : am_x t_Arr_fill (5, [.ref 27, .int (zi x1), .int (zi x2), .int (zi x3)], [], M) Q := by
  obtain ⟨r1, hv⟩ := hv
  obtain ⟨r2, hv⟩ := hv
  refine am_xn 3 (c1 := (if zi x2 < zi x3 then 10 else 20, [.ref 27, .int (zi x1), .int (zi x2), .int (zi x3)], [], M)) rfl (am_xlt r1 r2 (fun h => ?_) (fun h => ?_))
  · replace hv := hv.1 h
    obtain ⟨r4, hv⟩ := hv
    refine am_xn 3 (c1 := (13, [.ref 27, .int (zi x1), .int (zi x2), .int (zi x3)], [.int (zi x1), .int (zi x2), .ref 27], M)) rfl ?_
    refine am_xast rfl rfl rfl r4 ?_
    refine am_xn 0 (c1 := (14, [.ref 27, .int (zi x1), .int (zi x2), .int (zi x3)], [], zup M 27 x2 x1)) rfl ?_
    obtain ⟨M3, eM3⟩ : ∃ m, m = zup M 27 x2 x1 := ⟨_, rfl⟩
    replace hv := hv M3 eM3
    rw [← eM3]
    refine am_xn 1 (c1 := (17, [.ref 27, .int (zi x1), .int (zi x2 + zi 1), .int (zi x3)], [], M3)) rfl ?_
    rw [zi_add]
    refine am_xn 1 (c1 := (5, [.ref 27, .int (zi x1), .int (zi (x2 + 1)), .int (zi x3)], [], M3)) rfl ?_
    exact hv
  · replace hv := hv.2 h
    exact am_xr none ⟨rfl, rfl, rfl⟩ hv
theorem fill_27_loop (M0 : am_M) (v : Int) : ∀ (k : Nat) (i : Int) (M : am_M), 0 ≤ i → i + k = 120 → (∀ b j, M b j = if b = 27 ∧ j < i.toNat then zi v else M0 b j) → am_x t_Arr_fill (5, [.ref 27, .int (zi v), .int (zi i), .int (zi 120)], [], M) (fun r m => r = none ∧ m = zfl M0 27 120 v) := by
  intro k
  induction k with
  | zero =>
    intro i M h0 h1 hM
    refine vc_fill_27_5 v i 120 M _ ⟨⟨by omega, by omega⟩, by decide, fun h => by omega, fun _ => ⟨rfl, ?_⟩⟩
    funext b j
    rw [hM, show i.toNat = 120 by omega]
    rfl
  | succ k ih =>
    intro i M h0 h1 hM
    refine vc_fill_27_5 v i 120 M _ ⟨⟨by omega, by omega⟩, by decide, fun h => ⟨⟨h0, by omega⟩, fun M2 e => ih (i + 1) M2 (by omega) (by omega) ?_⟩, fun h => by omega⟩
    intro b j
    rw [e]
    unfold zup am_up
    rw [hM]
    by_cases hb : b = 27
    · by_cases hj : j = i.toNat
      · rw [if_pos hb, if_pos hj, if_pos ⟨hb, by omega⟩]
      · rw [if_pos hb, if_neg hj]
        by_cases h2 : j < i.toNat
        · rw [if_pos ⟨hb, h2⟩, if_pos ⟨hb, by omega⟩]
        · rw [if_neg (by rintro ⟨_, q⟩; exact h2 q), if_neg (by rintro ⟨_, q⟩; omega)]
    · rw [if_neg hb, if_neg (fun q => hb q.1), if_neg (fun q => hb q.1)]
theorem sp_afill_27 (M : am_M) (v : Int) : am_call t_Arr_fill [.ref 27, .int (zi v)] M none (zfl M 27 120 v) := by
  refine am_call_of ⟨Nat.le_of_ble_eq_true rfl, rfl⟩ (vc_fill_27 v M _ ?_)
  refine fill_27_loop M v 120 0 M (by omega) (by omega) ?_
  intro b j
  rw [if_neg (by rintro ⟨_, q⟩; omega)]
set_option maxRecDepth 100000 in
theorem vc_fill_29 (v : Int) (M : am_M) (Q : Option Value → am_M → Prop) (hv : am_x t_Arr_fill (5, [.ref 29, .int (zi v), .int (zi 0), .int (zi 120)], [], M) Q) : am_x t_Arr_fill (0, am_ent (am_mL t_Arr_fill) [.ref 29, .int (zi v)], [], M) Q := by
  refine am_xn 0 (c1 := (0, [.ref 29, .int (zi v), .null, .null], [], M)) rfl ?_
  refine am_xn 5 (c1 := (5, [.ref 29, .int (zi v), .int (zi 0), .int (zi 120)], [], M)) rfl ?_
  exact hv
set_option maxRecDepth 100000 in
theorem vc_fill_29_5 (x1 : Int) (x2 : Int) (x3 : Int) (M : am_M) (Q : Option Value → am_M → Prop) (hv : zr x2 ∧ (zr x3 ∧ ((x2 < x3 → (0 ≤ x2 ∧ x2 < 120) ∧ (∀ M3, M3 = zup M 29 x2 x1 → am_x t_Arr_fill (5, [.ref 29, .int (zi x1), .int (zi (x2 + 1)), .int (zi x3)], [], M3) Q)) ∧ (x3 ≤ x2 → Q none M)))) : am_x t_Arr_fill (5, [.ref 29, .int (zi x1), .int (zi x2), .int (zi x3)], [], M) Q := by
  obtain ⟨r1, hv⟩ := hv
  obtain ⟨r2, hv⟩ := hv
  refine am_xn 3 (c1 := (if zi x2 < zi x3 then 10 else 20, [.ref 29, .int (zi x1), .int (zi x2), .int (zi x3)], [], M)) rfl (am_xlt r1 r2 (fun h => ?_) (fun h => ?_))
  · replace hv := hv.1 h
    obtain ⟨r4, hv⟩ := hv
    refine am_xn 3 (c1 := (13, [.ref 29, .int (zi x1), .int (zi x2), .int (zi x3)], [.int (zi x1), .int (zi x2), .ref 29], M)) rfl ?_
    refine am_xast rfl rfl rfl r4 ?_
    refine am_xn 0 (c1 := (14, [.ref 29, .int (zi x1), .int (zi x2), .int (zi x3)], [], zup M 29 x2 x1)) rfl ?_
    obtain ⟨M3, eM3⟩ : ∃ m, m = zup M 29 x2 x1 := ⟨_, rfl⟩
    replace hv := hv M3 eM3
    rw [← eM3]
    refine am_xn 1 (c1 := (17, [.ref 29, .int (zi x1), .int (zi x2 + zi 1), .int (zi x3)], [], M3)) rfl ?_
    rw [zi_add]
    refine am_xn 1 (c1 := (5, [.ref 29, .int (zi x1), .int (zi (x2 + 1)), .int (zi x3)], [], M3)) rfl ?_
    exact hv
  · replace hv := hv.2 h
    exact am_xr none ⟨rfl, rfl, rfl⟩ hv
theorem fill_29_loop (M0 : am_M) (v : Int) : ∀ (k : Nat) (i : Int) (M : am_M), 0 ≤ i → i + k = 120 → (∀ b j, M b j = if b = 29 ∧ j < i.toNat then zi v else M0 b j) → am_x t_Arr_fill (5, [.ref 29, .int (zi v), .int (zi i), .int (zi 120)], [], M) (fun r m => r = none ∧ m = zfl M0 29 120 v) := by
  intro k
  induction k with
  | zero =>
    intro i M h0 h1 hM
    refine vc_fill_29_5 v i 120 M _ ⟨⟨by omega, by omega⟩, by decide, fun h => by omega, fun _ => ⟨rfl, ?_⟩⟩
    funext b j
    rw [hM, show i.toNat = 120 by omega]
    rfl
  | succ k ih =>
    intro i M h0 h1 hM
    refine vc_fill_29_5 v i 120 M _ ⟨⟨by omega, by omega⟩, by decide, fun h => ⟨⟨h0, by omega⟩, fun M2 e => ih (i + 1) M2 (by omega) (by omega) ?_⟩, fun h => by omega⟩
    intro b j
    rw [e]
    unfold zup am_up
    rw [hM]
    by_cases hb : b = 29
    · by_cases hj : j = i.toNat
      · rw [if_pos hb, if_pos hj, if_pos ⟨hb, by omega⟩]
      · rw [if_pos hb, if_neg hj]
        by_cases h2 : j < i.toNat
        · rw [if_pos ⟨hb, h2⟩, if_pos ⟨hb, by omega⟩]
        · rw [if_neg (by rintro ⟨_, q⟩; exact h2 q), if_neg (by rintro ⟨_, q⟩; omega)]
    · rw [if_neg hb, if_neg (fun q => hb q.1), if_neg (fun q => hb q.1)]
theorem sp_afill_29 (M : am_M) (v : Int) : am_call t_Arr_fill [.ref 29, .int (zi v)] M none (zfl M 29 120 v) := by
  refine am_call_of ⟨Nat.le_of_ble_eq_true rfl, rfl⟩ (vc_fill_29 v M _ ?_)
  refine fill_29_loop M v 120 0 M (by omega) (by omega) ?_
  intro b j
  rw [if_neg (by rintro ⟨_, q⟩; omega)]
set_option maxRecDepth 100000 in
theorem vc_fill_36 (v : Int) (M : am_M) (Q : Option Value → am_M → Prop) (hv : am_x t_Arr_fill (5, [.ref 36, .int (zi v), .int (zi 0), .int (zi 40)], [], M) Q) : am_x t_Arr_fill (0, am_ent (am_mL t_Arr_fill) [.ref 36, .int (zi v)], [], M) Q := by
  refine am_xn 0 (c1 := (0, [.ref 36, .int (zi v), .null, .null], [], M)) rfl ?_
  refine am_xn 5 (c1 := (5, [.ref 36, .int (zi v), .int (zi 0), .int (zi 40)], [], M)) rfl ?_
  exact hv
set_option maxRecDepth 100000 in
theorem vc_fill_36_5 (x1 : Int) (x2 : Int) (x3 : Int) (M : am_M) (Q : Option Value → am_M → Prop) (hv : zr x2 ∧ (zr x3 ∧ ((x2 < x3 → (0 ≤ x2 ∧ x2 < 40) ∧ (∀ M3, M3 = zup M 36 x2 x1 → am_x t_Arr_fill (5, [.ref 36, .int (zi x1), .int (zi (x2 + 1)), .int (zi x3)], [], M3) Q)) ∧ (x3 ≤ x2 → Q none M)))) : am_x t_Arr_fill (5, [.ref 36, .int (zi x1), .int (zi x2), .int (zi x3)], [], M) Q := by
  obtain ⟨r1, hv⟩ := hv
  obtain ⟨r2, hv⟩ := hv
  refine am_xn 3 (c1 := (if zi x2 < zi x3 then 10 else 20, [.ref 36, .int (zi x1), .int (zi x2), .int (zi x3)], [], M)) rfl (am_xlt r1 r2 (fun h => ?_) (fun h => ?_))
  · replace hv := hv.1 h
    obtain ⟨r4, hv⟩ := hv
    refine am_xn 3 (c1 := (13, [.ref 36, .int (zi x1), .int (zi x2), .int (zi x3)], [.int (zi x1), .int (zi x2), .ref 36], M)) rfl ?_
    refine am_xast rfl rfl rfl r4 ?_
    refine am_xn 0 (c1 := (14, [.ref 36, .int (zi x1), .int (zi x2), .int (zi x3)], [], zup M 36 x2 x1)) rfl ?_
    obtain ⟨M3, eM3⟩ : ∃ m, m = zup M 36 x2 x1 := ⟨_, rfl⟩
    replace hv := hv M3 eM3
    rw [← eM3]
    refine am_xn 1 (c1 := (17, [.ref 36, .int (zi x1), .int (zi x2 + zi 1), .int (zi x3)], [], M3)) rfl ?_
    rw [zi_add]
    refine am_xn 1 (c1 := (5, [.ref 36, .int (zi x1), .int (zi (x2 + 1)), .int (zi x3)], [], M3)) rfl ?_
    exact hv
  · replace hv := hv.2 h
    exact am_xr none ⟨rfl, rfl, rfl⟩ hv
theorem fill_36_loop (M0 : am_M) (v : Int) : ∀ (k : Nat) (i : Int) (M : am_M), 0 ≤ i → i + k = 40 → (∀ b j, M b j = if b = 36 ∧ j < i.toNat then zi v else M0 b j) → am_x t_Arr_fill (5, [.ref 36, .int (zi v), .int (zi i), .int (zi 40)], [], M) (fun r m => r = none ∧ m = zfl M0 36 40 v) := by
  intro k
  induction k with
  | zero =>
    intro i M h0 h1 hM
    refine vc_fill_36_5 v i 40 M _ ⟨⟨by omega, by omega⟩, by decide, fun h => by omega, fun _ => ⟨rfl, ?_⟩⟩
    funext b j
    rw [hM, show i.toNat = 40 by omega]
    rfl
  | succ k ih =>
    intro i M h0 h1 hM
    refine vc_fill_36_5 v i 40 M _ ⟨⟨by omega, by omega⟩, by decide, fun h => ⟨⟨h0, by omega⟩, fun M2 e => ih (i + 1) M2 (by omega) (by omega) ?_⟩, fun h => by omega⟩
    intro b j
    rw [e]
    unfold zup am_up
    rw [hM]
    by_cases hb : b = 36
    · by_cases hj : j = i.toNat
      · rw [if_pos hb, if_pos hj, if_pos ⟨hb, by omega⟩]
      · rw [if_pos hb, if_neg hj]
        by_cases h2 : j < i.toNat
        · rw [if_pos ⟨hb, h2⟩, if_pos ⟨hb, by omega⟩]
        · rw [if_neg (by rintro ⟨_, q⟩; exact h2 q), if_neg (by rintro ⟨_, q⟩; omega)]
    · rw [if_neg hb, if_neg (fun q => hb q.1), if_neg (fun q => hb q.1)]
theorem sp_afill_36 (M : am_M) (v : Int) : am_call t_Arr_fill [.ref 36, .int (zi v)] M none (zfl M 36 40 v) := by
  refine am_call_of ⟨Nat.le_of_ble_eq_true rfl, rfl⟩ (vc_fill_36 v M _ ?_)
  refine fill_36_loop M v 40 0 M (by omega) (by omega) ?_
  intro b j
  rw [if_neg (by rintro ⟨_, q⟩; omega)]
set_option maxRecDepth 100000 in
theorem vc_fill_46 (v : Int) (M : am_M) (Q : Option Value → am_M → Prop) (hv : am_x t_Arr_fill (5, [.ref 46, .int (zi v), .int (zi 0), .int (zi 120)], [], M) Q) : am_x t_Arr_fill (0, am_ent (am_mL t_Arr_fill) [.ref 46, .int (zi v)], [], M) Q := by
  refine am_xn 0 (c1 := (0, [.ref 46, .int (zi v), .null, .null], [], M)) rfl ?_
  refine am_xn 5 (c1 := (5, [.ref 46, .int (zi v), .int (zi 0), .int (zi 120)], [], M)) rfl ?_
  exact hv
set_option maxRecDepth 100000 in
theorem vc_fill_46_5 (x1 : Int) (x2 : Int) (x3 : Int) (M : am_M) (Q : Option Value → am_M → Prop) (hv : zr x2 ∧ (zr x3 ∧ ((x2 < x3 → (0 ≤ x2 ∧ x2 < 120) ∧ (∀ M3, M3 = zup M 46 x2 x1 → am_x t_Arr_fill (5, [.ref 46, .int (zi x1), .int (zi (x2 + 1)), .int (zi x3)], [], M3) Q)) ∧ (x3 ≤ x2 → Q none M)))) : am_x t_Arr_fill (5, [.ref 46, .int (zi x1), .int (zi x2), .int (zi x3)], [], M) Q := by
  obtain ⟨r1, hv⟩ := hv
  obtain ⟨r2, hv⟩ := hv
  refine am_xn 3 (c1 := (if zi x2 < zi x3 then 10 else 20, [.ref 46, .int (zi x1), .int (zi x2), .int (zi x3)], [], M)) rfl (am_xlt r1 r2 (fun h => ?_) (fun h => ?_))
  · replace hv := hv.1 h
    obtain ⟨r4, hv⟩ := hv
    refine am_xn 3 (c1 := (13, [.ref 46, .int (zi x1), .int (zi x2), .int (zi x3)], [.int (zi x1), .int (zi x2), .ref 46], M)) rfl ?_
    refine am_xast rfl rfl rfl r4 ?_
    refine am_xn 0 (c1 := (14, [.ref 46, .int (zi x1), .int (zi x2), .int (zi x3)], [], zup M 46 x2 x1)) rfl ?_
    obtain ⟨M3, eM3⟩ : ∃ m, m = zup M 46 x2 x1 := ⟨_, rfl⟩
    replace hv := hv M3 eM3
    rw [← eM3]
    refine am_xn 1 (c1 := (17, [.ref 46, .int (zi x1), .int (zi x2 + zi 1), .int (zi x3)], [], M3)) rfl ?_
    rw [zi_add]
    refine am_xn 1 (c1 := (5, [.ref 46, .int (zi x1), .int (zi (x2 + 1)), .int (zi x3)], [], M3)) rfl ?_
    exact hv
  · replace hv := hv.2 h
    exact am_xr none ⟨rfl, rfl, rfl⟩ hv
theorem fill_46_loop (M0 : am_M) (v : Int) : ∀ (k : Nat) (i : Int) (M : am_M), 0 ≤ i → i + k = 120 → (∀ b j, M b j = if b = 46 ∧ j < i.toNat then zi v else M0 b j) → am_x t_Arr_fill (5, [.ref 46, .int (zi v), .int (zi i), .int (zi 120)], [], M) (fun r m => r = none ∧ m = zfl M0 46 120 v) := by
  intro k
  induction k with
  | zero =>
    intro i M h0 h1 hM
    refine vc_fill_46_5 v i 120 M _ ⟨⟨by omega, by omega⟩, by decide, fun h => by omega, fun _ => ⟨rfl, ?_⟩⟩
    funext b j
    rw [hM, show i.toNat = 120 by omega]
    rfl
  | succ k ih =>
    intro i M h0 h1 hM
    refine vc_fill_46_5 v i 120 M _ ⟨⟨by omega, by omega⟩, by decide, fun h => ⟨⟨h0, by omega⟩, fun M2 e => ih (i + 1) M2 (by omega) (by omega) ?_⟩, fun h => by omega⟩
    intro b j
    rw [e]
    unfold zup am_up
    rw [hM]
    by_cases hb : b = 46
    · by_cases hj : j = i.toNat
      · rw [if_pos hb, if_pos hj, if_pos ⟨hb, by omega⟩]
      · rw [if_pos hb, if_neg hj]
        by_cases h2 : j < i.toNat
        · rw [if_pos ⟨hb, h2⟩, if_pos ⟨hb, by omega⟩]
        · rw [if_neg (by rintro ⟨_, q⟩; exact h2 q), if_neg (by rintro ⟨_, q⟩; omega)]
    · rw [if_neg hb, if_neg (fun q => hb q.1), if_neg (fun q => hb q.1)]
theorem sp_afill_46 (M : am_M) (v : Int) : am_call t_Arr_fill [.ref 46, .int (zi v)] M none (zfl M 46 120 v) := by
  refine am_call_of ⟨Nat.le_of_ble_eq_true rfl, rfl⟩ (vc_fill_46 v M _ ?_)
  refine fill_46_loop M v 120 0 M (by omega) (by omega) ?_
  intro b j
  rw [if_neg (by rintro ⟨_, q⟩; omega)]
set_option maxRecDepth 100000 in
theorem vc_fill_48 (v : Int) (M : am_M) (Q : Option Value → am_M → Prop) (hv : am_x t_Arr_fill (5, [.ref 48, .int (zi v), .int (zi 0), .int (zi 120)], [], M) Q) : am_x t_Arr_fill (0, am_ent (am_mL t_Arr_fill) [.ref 48, .int (zi v)], [], M) Q := by
  refine am_xn 0 (c1 := (0, [.ref 48, .int (zi v), .null, .null], [], M)) rfl ?_
  refine am_xn 5 (c1 := (5, [.ref 48, .int (zi v), .int (zi 0), .int (zi 120)], [], M)) rfl ?_
  exact hv
set_option maxRecDepth 100000 in
theorem vc_fill_48_5 (x1 : Int) (x2 : Int) (x3 : Int) (M : am_M) (Q : Option Value → am_M → Prop) (hv : zr x2 ∧ (zr x3 ∧ ((x2 < x3 → (0 ≤ x2 ∧ x2 < 120) ∧ (∀ M3, M3 = zup M 48 x2 x1 → am_x t_Arr_fill (5, [.ref 48, .int (zi x1), .int (zi (x2 + 1)), .int (zi x3)], [], M3) Q)) ∧ (x3 ≤ x2 → Q none M)))) : am_x t_Arr_fill (5, [.ref 48, .int (zi x1), .int (zi x2), .int (zi x3)], [], M) Q := by
  obtain ⟨r1, hv⟩ := hv
  obtain ⟨r2, hv⟩ := hv
  refine am_xn 3 (c1 := (if zi x2 < zi x3 then 10 else 20, [.ref 48, .int (zi x1), .int (zi x2), .int (zi x3)], [], M)) rfl (am_xlt r1 r2 (fun h => ?_) (fun h => ?_))
  · replace hv := hv.1 h
    obtain ⟨r4, hv⟩ := hv
    refine am_xn 3 (c1 := (13, [.ref 48, .int (zi x1), .int (zi x2), .int (zi x3)], [.int (zi x1), .int (zi x2), .ref 48], M)) rfl ?_
    refine am_xast rfl rfl rfl r4 ?_
    refine am_xn 0 (c1 := (14, [.ref 48, .int (zi x1), .int (zi x2), .int (zi x3)], [], zup M 48 x2 x1)) rfl ?_
    obtain ⟨M3, eM3⟩ : ∃ m, m = zup M 48 x2 x1 := ⟨_, rfl⟩
    replace hv := hv M3 eM3
    rw [← eM3]
    refine am_xn 1 (c1 := (17, [.ref 48, .int (zi x1), .int (zi x2 + zi 1), .int (zi x3)], [], M3)) rfl ?_
    rw [zi_add]
    refine am_xn 1 (c1 := (5, [.ref 48, .int (zi x1), .int (zi (x2 + 1)), .int (zi x3)], [], M3)) rfl ?_
    exact hv
  · replace hv := hv.2 h
    exact am_xr none ⟨rfl, rfl, rfl⟩ hv
theorem fill_48_loop (M0 : am_M) (v : Int) : ∀ (k : Nat) (i : Int) (M : am_M), 0 ≤ i → i + k = 120 → (∀ b j, M b j = if b = 48 ∧ j < i.toNat then zi v else M0 b j) → am_x t_Arr_fill (5, [.ref 48, .int (zi v), .int (zi i), .int (zi 120)], [], M) (fun r m => r = none ∧ m = zfl M0 48 120 v) := by
  intro k
  induction k with
  | zero =>
    intro i M h0 h1 hM
    refine vc_fill_48_5 v i 120 M _ ⟨⟨by omega, by omega⟩, by decide, fun h => by omega, fun _ => ⟨rfl, ?_⟩⟩
    funext b j
    rw [hM, show i.toNat = 120 by omega]
    rfl
  | succ k ih =>
    intro i M h0 h1 hM
    refine vc_fill_48_5 v i 120 M _ ⟨⟨by omega, by omega⟩, by decide, fun h => ⟨⟨h0, by omega⟩, fun M2 e => ih (i + 1) M2 (by omega) (by omega) ?_⟩, fun h => by omega⟩
    intro b j
    rw [e]
    unfold zup am_up
    rw [hM]
    by_cases hb : b = 48
    · by_cases hj : j = i.toNat
      · rw [if_pos hb, if_pos hj, if_pos ⟨hb, by omega⟩]
      · rw [if_pos hb, if_neg hj]
        by_cases h2 : j < i.toNat
        · rw [if_pos ⟨hb, h2⟩, if_pos ⟨hb, by omega⟩]
        · rw [if_neg (by rintro ⟨_, q⟩; exact h2 q), if_neg (by rintro ⟨_, q⟩; omega)]
    · rw [if_neg hb, if_neg (fun q => hb q.1), if_neg (fun q => hb q.1)]
theorem sp_afill_48 (M : am_M) (v : Int) : am_call t_Arr_fill [.ref 48, .int (zi v)] M none (zfl M 48 120 v) := by
  refine am_call_of ⟨Nat.le_of_ble_eq_true rfl, rfl⟩ (vc_fill_48 v M _ ?_)
  refine fill_48_loop M v 120 0 M (by omega) (by omega) ?_
  intro b j
  rw [if_neg (by rintro ⟨_, q⟩; omega)]
set_option maxRecDepth 100000 in
theorem vc_fill_55 (v : Int) (M : am_M) (Q : Option Value → am_M → Prop) (hv : am_x t_Arr_fill (5, [.ref 55, .int (zi v), .int (zi 0), .int (zi 40)], [], M) Q) : am_x t_Arr_fill (0, am_ent (am_mL t_Arr_fill) [.ref 55, .int (zi v)], [], M) Q := by
  refine am_xn 0 (c1 := (0, [.ref 55, .int (zi v), .null, .null], [], M)) rfl ?_
  refine am_xn 5 (c1 := (5, [.ref 55, .int (zi v), .int (zi 0), .int (zi 40)], [], M)) rfl ?_
  exact hv
set_option maxRecDepth 100000 in
theorem vc_fill_55_5 (x1 : Int) (x2 : Int) (x3 : Int) (M : am_M) (Q : Option Value → am_M → Prop) (hv : zr x2 ∧ (zr x3 ∧ ((x2 < x3 → (0 ≤ x2 ∧ x2 < 40) ∧ (∀ M3, M3 = zup M 55 x2 x1 → am_x t_Arr_fill (5, [.ref 55, .int (zi x1), .int (zi (x2 + 1)), .int (zi x3)], [], M3) Q)) ∧ (x3 ≤ x2 → Q none M)))) : am_x t_Arr_fill (5, [.ref 55, .int (zi x1), .int (zi x2), .int (zi x3)], [], M) Q := by
  obtain ⟨r1, hv⟩ := hv
  obtain ⟨r2, hv⟩ := hv
  refine am_xn 3 (c1 := (if zi x2 < zi x3 then 10 else 20, [.ref 55, .int (zi x1), .int (zi x2), .int (zi x3)], [], M)) rfl (am_xlt r1 r2 (fun h => ?_) (fun h => ?_))
  · replace hv := hv.1 h
    obtain ⟨r4, hv⟩ := hv
    refine am_xn 3 (c1 := (13, [.ref 55, .int (zi x1), .int (zi x2), .int (zi x3)], [.int (zi x1), .int (zi x2), .ref 55], M)) rfl ?_
    refine am_xast rfl rfl rfl r4 ?_
    refine am_xn 0 (c1 := (14, [.ref 55, .int (zi x1), .int (zi x2), .int (zi x3)], [], zup M 55 x2 x1)) rfl ?_
    obtain ⟨M3, eM3⟩ : ∃ m, m = zup M 55 x2 x1 := ⟨_, rfl⟩
    replace hv := hv M3 eM3
    rw [← eM3]
    refine am_xn 1 (c1 := (17, [.ref 55, .int (zi x1), .int (zi x2 + zi 1), .int (zi x3)], [], M3)) rfl ?_
    rw [zi_add]
    refine am_xn 1 (c1 := (5, [.ref 55, .int (zi x1), .int (zi (x2 + 1)), .int (zi x3)], [], M3)) rfl ?_
    exact hv
  · replace hv := hv.2 h
    exact am_xr none ⟨rfl, rfl, rfl⟩ hv
theorem fill_55_loop (M0 : am_M) (v : Int) : ∀ (k : Nat) (i : Int) (M : am_M), 0 ≤ i → i + k = 40 → (∀ b j, M b j = if b = 55 ∧ j < i.toNat then zi v else M0 b j) → am_x t_Arr_fill (5, [.ref 55, .int (zi v), .int (zi i), .int (zi 40)], [], M) (fun r m => r = none ∧ m = zfl M0 55 40 v) := by
  intro k
  induction k with
  | zero =>
    intro i M h0 h1 hM
    refine vc_fill_55_5 v i 40 M _ ⟨⟨by omega, by omega⟩, by decide, fun h => by omega, fun _ => ⟨rfl, ?_⟩⟩
    funext b j
    rw [hM, show i.toNat = 40 by omega]
    rfl
  | succ k ih =>
    intro i M h0 h1 hM
    refine vc_fill_55_5 v i 40 M _ ⟨⟨by omega, by omega⟩, by decide, fun h => ⟨⟨h0, by omega⟩, fun M2 e => ih (i + 1) M2 (by omega) (by omega) ?_⟩, fun h => by omega⟩
    intro b j
    rw [e]
    unfold zup am_up
    rw [hM]
    by_cases hb : b = 55
    · by_cases hj : j = i.toNat
      · rw [if_pos hb, if_pos hj, if_pos ⟨hb, by omega⟩]
      · rw [if_pos hb, if_neg hj]
        by_cases h2 : j < i.toNat
        · rw [if_pos ⟨hb, h2⟩, if_pos ⟨hb, by omega⟩]
        · rw [if_neg (by rintro ⟨_, q⟩; exact h2 q), if_neg (by rintro ⟨_, q⟩; omega)]
    · rw [if_neg hb, if_neg (fun q => hb q.1), if_neg (fun q => hb q.1)]
theorem sp_afill_55 (M : am_M) (v : Int) : am_call t_Arr_fill [.ref 55, .int (zi v)] M none (zfl M 55 40 v) := by
  refine am_call_of ⟨Nat.le_of_ble_eq_true rfl, rfl⟩ (vc_fill_55 v M _ ?_)
  refine fill_55_loop M v 40 0 M (by omega) (by omega) ?_
  intro b j
  rw [if_neg (by rintro ⟨_, q⟩; omega)]
set_option maxRecDepth 100000 in
theorem vc_rfill_16 (v : Int) (M : am_M) (Q : Option Value → am_M → Prop) (hv : ∀ M1, M1 = zfl M 17 40 v → Q none M1) : am_x t_Row_fill (0, am_ent (am_mL t_Row_fill) [.ref 16, .int (zi v)], [], M) Q := by
  refine am_xn 0 (c1 := (0, [.ref 16, .int (zi v)], [], M)) rfl ?_
  refine am_xn 3 (c1 := (5, [.ref 16, .int (zi v)], [.int (zi v), .ref 17], M)) rfl ?_
  obtain ⟨M1, eM1⟩ : ∃ m, m = zfl M 17 40 v := ⟨_, rfl⟩
  replace hv := hv M1 eM1
  refine am_xc t_Arr_fill (.invokestatic 19) 19 (av := [.ref 17, .int (zi v)]) (rest := []) (rv := none) (M' := M1) rfl rfl rfl rfl (Nat.le_of_ble_eq_true rfl) (fun h => nomatch h) (by rw [eM1]; exact sp_afill_17 M v) ?_
  refine am_xn 0 (c1 := (8, [.ref 16, .int (zi v)], [], M1)) rfl ?_
  exact am_xr none ⟨rfl, rfl, rfl⟩ hv
theorem sp_rfill_16 (M : am_M) (v : Int) : am_call t_Row_fill [.ref 16, .int (zi v)] M (none) (zfl M 17 40 v) := by
  refine am_call_of ⟨Nat.le_of_ble_eq_true rfl, rfl⟩ (vc_rfill_16 v M _ ?_)
  (repeat' (first | apply And.intro | intro _)) <;> (first | rfl | omega | (split <;> (first | rfl | omega)))
set_option maxRecDepth 100000 in
theorem vc_rfill_26 (v : Int) (M : am_M) (Q : Option Value → am_M → Prop) (hv : ∀ M1, M1 = zfl M 27 120 v → Q none M1) : am_x t_Row_fill (0, am_ent (am_mL t_Row_fill) [.ref 26, .int (zi v)], [], M) Q := by
  refine am_xn 0 (c1 := (0, [.ref 26, .int (zi v)], [], M)) rfl ?_
  refine am_xn 3 (c1 := (5, [.ref 26, .int (zi v)], [.int (zi v), .ref 27], M)) rfl ?_
  obtain ⟨M1, eM1⟩ : ∃ m, m = zfl M 27 120 v := ⟨_, rfl⟩
  replace hv := hv M1 eM1
  refine am_xc t_Arr_fill (.invokestatic 19) 19 (av := [.ref 27, .int (zi v)]) (rest := []) (rv := none) (M' := M1) rfl rfl rfl rfl (Nat.le_of_ble_eq_true rfl) (fun h => nomatch h) (by rw [eM1]; exact sp_afill_27 M v) ?_
  refine am_xn 0 (c1 := (8, [.ref 26, .int (zi v)], [], M1)) rfl ?_
  exact am_xr none ⟨rfl, rfl, rfl⟩ hv
theorem sp_rfill_26 (M : am_M) (v : Int) : am_call t_Row_fill [.ref 26, .int (zi v)] M (none) (zfl M 27 120 v) := by
  refine am_call_of ⟨Nat.le_of_ble_eq_true rfl, rfl⟩ (vc_rfill_26 v M _ ?_)
  (repeat' (first | apply And.intro | intro _)) <;> (first | rfl | omega | (split <;> (first | rfl | omega)))
set_option maxRecDepth 100000 in
theorem vc_rfill_28 (v : Int) (M : am_M) (Q : Option Value → am_M → Prop) (hv : ∀ M1, M1 = zfl M 29 120 v → Q none M1) : am_x t_Row_fill (0, am_ent (am_mL t_Row_fill) [.ref 28, .int (zi v)], [], M) Q := by
  refine am_xn 0 (c1 := (0, [.ref 28, .int (zi v)], [], M)) rfl ?_
  refine am_xn 3 (c1 := (5, [.ref 28, .int (zi v)], [.int (zi v), .ref 29], M)) rfl ?_
  obtain ⟨M1, eM1⟩ : ∃ m, m = zfl M 29 120 v := ⟨_, rfl⟩
  replace hv := hv M1 eM1
  refine am_xc t_Arr_fill (.invokestatic 19) 19 (av := [.ref 29, .int (zi v)]) (rest := []) (rv := none) (M' := M1) rfl rfl rfl rfl (Nat.le_of_ble_eq_true rfl) (fun h => nomatch h) (by rw [eM1]; exact sp_afill_29 M v) ?_
  refine am_xn 0 (c1 := (8, [.ref 28, .int (zi v)], [], M1)) rfl ?_
  exact am_xr none ⟨rfl, rfl, rfl⟩ hv
theorem sp_rfill_28 (M : am_M) (v : Int) : am_call t_Row_fill [.ref 28, .int (zi v)] M (none) (zfl M 29 120 v) := by
  refine am_call_of ⟨Nat.le_of_ble_eq_true rfl, rfl⟩ (vc_rfill_28 v M _ ?_)
  (repeat' (first | apply And.intro | intro _)) <;> (first | rfl | omega | (split <;> (first | rfl | omega)))
set_option maxRecDepth 100000 in
theorem vc_rfill_35 (v : Int) (M : am_M) (Q : Option Value → am_M → Prop) (hv : ∀ M1, M1 = zfl M 36 40 v → Q none M1) : am_x t_Row_fill (0, am_ent (am_mL t_Row_fill) [.ref 35, .int (zi v)], [], M) Q := by
  refine am_xn 0 (c1 := (0, [.ref 35, .int (zi v)], [], M)) rfl ?_
  refine am_xn 3 (c1 := (5, [.ref 35, .int (zi v)], [.int (zi v), .ref 36], M)) rfl ?_
  obtain ⟨M1, eM1⟩ : ∃ m, m = zfl M 36 40 v := ⟨_, rfl⟩
  replace hv := hv M1 eM1
  refine am_xc t_Arr_fill (.invokestatic 19) 19 (av := [.ref 36, .int (zi v)]) (rest := []) (rv := none) (M' := M1) rfl rfl rfl rfl (Nat.le_of_ble_eq_true rfl) (fun h => nomatch h) (by rw [eM1]; exact sp_afill_36 M v) ?_
  refine am_xn 0 (c1 := (8, [.ref 35, .int (zi v)], [], M1)) rfl ?_
  exact am_xr none ⟨rfl, rfl, rfl⟩ hv
theorem sp_rfill_35 (M : am_M) (v : Int) : am_call t_Row_fill [.ref 35, .int (zi v)] M (none) (zfl M 36 40 v) := by
  refine am_call_of ⟨Nat.le_of_ble_eq_true rfl, rfl⟩ (vc_rfill_35 v M _ ?_)
  (repeat' (first | apply And.intro | intro _)) <;> (first | rfl | omega | (split <;> (first | rfl | omega)))
set_option maxRecDepth 100000 in
theorem vc_rfill_45 (v : Int) (M : am_M) (Q : Option Value → am_M → Prop) (hv : ∀ M1, M1 = zfl M 46 120 v → Q none M1) : am_x t_Row_fill (0, am_ent (am_mL t_Row_fill) [.ref 45, .int (zi v)], [], M) Q := by
  refine am_xn 0 (c1 := (0, [.ref 45, .int (zi v)], [], M)) rfl ?_
  refine am_xn 3 (c1 := (5, [.ref 45, .int (zi v)], [.int (zi v), .ref 46], M)) rfl ?_
  obtain ⟨M1, eM1⟩ : ∃ m, m = zfl M 46 120 v := ⟨_, rfl⟩
  replace hv := hv M1 eM1
  refine am_xc t_Arr_fill (.invokestatic 19) 19 (av := [.ref 46, .int (zi v)]) (rest := []) (rv := none) (M' := M1) rfl rfl rfl rfl (Nat.le_of_ble_eq_true rfl) (fun h => nomatch h) (by rw [eM1]; exact sp_afill_46 M v) ?_
  refine am_xn 0 (c1 := (8, [.ref 45, .int (zi v)], [], M1)) rfl ?_
  exact am_xr none ⟨rfl, rfl, rfl⟩ hv
theorem sp_rfill_45 (M : am_M) (v : Int) : am_call t_Row_fill [.ref 45, .int (zi v)] M (none) (zfl M 46 120 v) := by
  refine am_call_of ⟨Nat.le_of_ble_eq_true rfl, rfl⟩ (vc_rfill_45 v M _ ?_)
  (repeat' (first | apply And.intro | intro _)) <;> (first | rfl | omega | (split <;> (first | rfl | omega)))
set_option maxRecDepth 100000 in
theorem vc_rfill_47 (v : Int) (M : am_M) (Q : Option Value → am_M → Prop) (hv : ∀ M1, M1 = zfl M 48 120 v → Q none M1) : am_x t_Row_fill (0, am_ent (am_mL t_Row_fill) [.ref 47, .int (zi v)], [], M) Q := by
  refine am_xn 0 (c1 := (0, [.ref 47, .int (zi v)], [], M)) rfl ?_
  refine am_xn 3 (c1 := (5, [.ref 47, .int (zi v)], [.int (zi v), .ref 48], M)) rfl ?_
  obtain ⟨M1, eM1⟩ : ∃ m, m = zfl M 48 120 v := ⟨_, rfl⟩
  replace hv := hv M1 eM1
  refine am_xc t_Arr_fill (.invokestatic 19) 19 (av := [.ref 48, .int (zi v)]) (rest := []) (rv := none) (M' := M1) rfl rfl rfl rfl (Nat.le_of_ble_eq_true rfl) (fun h => nomatch h) (by rw [eM1]; exact sp_afill_48 M v) ?_
  refine am_xn 0 (c1 := (8, [.ref 47, .int (zi v)], [], M1)) rfl ?_
  exact am_xr none ⟨rfl, rfl, rfl⟩ hv
theorem sp_rfill_47 (M : am_M) (v : Int) : am_call t_Row_fill [.ref 47, .int (zi v)] M (none) (zfl M 48 120 v) := by
  refine am_call_of ⟨Nat.le_of_ble_eq_true rfl, rfl⟩ (vc_rfill_47 v M _ ?_)
  (repeat' (first | apply And.intro | intro _)) <;> (first | rfl | omega | (split <;> (first | rfl | omega)))
set_option maxRecDepth 100000 in
theorem vc_rfill_54 (v : Int) (M : am_M) (Q : Option Value → am_M → Prop) (hv : ∀ M1, M1 = zfl M 55 40 v → Q none M1) : am_x t_Row_fill (0, am_ent (am_mL t_Row_fill) [.ref 54, .int (zi v)], [], M) Q := by
  refine am_xn 0 (c1 := (0, [.ref 54, .int (zi v)], [], M)) rfl ?_
  refine am_xn 3 (c1 := (5, [.ref 54, .int (zi v)], [.int (zi v), .ref 55], M)) rfl ?_
  obtain ⟨M1, eM1⟩ : ∃ m, m = zfl M 55 40 v := ⟨_, rfl⟩
  replace hv := hv M1 eM1
  refine am_xc t_Arr_fill (.invokestatic 19) 19 (av := [.ref 55, .int (zi v)]) (rest := []) (rv := none) (M' := M1) rfl rfl rfl rfl (Nat.le_of_ble_eq_true rfl) (fun h => nomatch h) (by rw [eM1]; exact sp_afill_55 M v) ?_
  refine am_xn 0 (c1 := (8, [.ref 54, .int (zi v)], [], M1)) rfl ?_
  exact am_xr none ⟨rfl, rfl, rfl⟩ hv
theorem sp_rfill_54 (M : am_M) (v : Int) : am_call t_Row_fill [.ref 54, .int (zi v)] M (none) (zfl M 55 40 v) := by
  refine am_call_of ⟨Nat.le_of_ble_eq_true rfl, rfl⟩ (vc_rfill_54 v M _ ?_)
  (repeat' (first | apply And.intro | intro _)) <;> (first | rfl | omega | (split <;> (first | rfl | omega)))
set_option maxRecDepth 100000 in
theorem vc_within (v : Int) (w : Int) (M : am_M) (Q : Option Value → am_M → Prop) (hv : zr v ∧ ((v < 0 → Q (some (.int (zi 0))) M) ∧ (0 ≤ v → zr w ∧ ((w < v → Q (some (.int (zi 0))) M) ∧ (v ≤ w → Q (some (.int (zi 1))) M))))) : am_x t_SB_within (0, am_ent (am_mL t_SB_within) [.int (zi v), .int (zi w)], [], M) Q := by
  refine am_xn 0 (c1 := (0, [.int (zi v), .int (zi w)], [], M)) rfl ?_
  obtain ⟨r1, hv⟩ := hv
  refine am_xn 2 (c1 := (if zi v < zi 0 then 13 else 4, [.int (zi v), .int (zi w)], [], M)) rfl (am_xlt r1 (by decide) (fun h => ?_) (fun h => ?_))
  · replace hv := hv.1 h
    refine am_xn 1 (c1 := (14, [.int (zi v), .int (zi w)], [.int (zi 0)], M)) rfl ?_
    exact am_xr (some (.int (zi 0))) ⟨rfl, rfl, .boolean, rfl, rfl⟩ hv
  · replace hv := hv.2 h
    obtain ⟨r2, hv⟩ := hv
    refine am_xn 3 (c1 := (if zi w < zi v then 13 else 9, [.int (zi v), .int (zi w)], [], M)) rfl (am_xlt r2 r1 (fun h => ?_) (fun h => ?_))
    · replace hv := hv.1 h
      refine am_xn 1 (c1 := (14, [.int (zi v), .int (zi w)], [.int (zi 0)], M)) rfl ?_
      exact am_xr (some (.int (zi 0))) ⟨rfl, rfl, .boolean, rfl, rfl⟩ hv
    · replace hv := hv.2 h
      refine am_xn 2 (c1 := (14, [.int (zi v), .int (zi w)], [.int (zi 1)], M)) rfl ?_
      exact am_xr (some (.int (zi 1))) ⟨rfl, rfl, .boolean, rfl, rfl⟩ hv
theorem sp_within (M : am_M) (v : Int) (w : Int) (g : zr v ∧ zr w) : am_call t_SB_within [.int (zi v), .int (zi w)] M (some (.int (zi (if 0 ≤ v ∧ v ≤ w then 1 else 0)))) M := by
  refine am_call_of ⟨Nat.le_of_ble_eq_true rfl, rfl⟩ (vc_within v w M _ ?_)
  obtain ⟨⟨_, _⟩, ⟨_, _⟩⟩ := g
  (repeat' (first | apply And.intro | intro _)) <;> (first | rfl | omega | (split <;> (first | rfl | omega)))
set_option maxRecDepth 100000 in
theorem vc_in (v : Int) (w : Int) (u : Int) (M : am_M) (Q : Option Value → am_M → Prop) (hv : zr v ∧ (zr w ∧ ((v < w → Q (some (.int (zi 0))) M) ∧ (w ≤ v → zr u ∧ ((u < v → Q (some (.int (zi 0))) M) ∧ (v ≤ u → Q (some (.int (zi 1))) M)))))) : am_x t_Mo_in (0, am_ent (am_mL t_Mo_in) [.int (zi v), .int (zi w), .int (zi u)], [], M) Q := by
  refine am_xn 0 (c1 := (0, [.int (zi v), .int (zi w), .int (zi u)], [], M)) rfl ?_
  obtain ⟨r1, hv⟩ := hv
  obtain ⟨r2, hv⟩ := hv
  refine am_xn 3 (c1 := (if zi v < zi w then 14 else 5, [.int (zi v), .int (zi w), .int (zi u)], [], M)) rfl (am_xlt r1 r2 (fun h => ?_) (fun h => ?_))
  · replace hv := hv.1 h
    refine am_xn 1 (c1 := (15, [.int (zi v), .int (zi w), .int (zi u)], [.int (zi 0)], M)) rfl ?_
    exact am_xr (some (.int (zi 0))) ⟨rfl, rfl, .boolean, rfl, rfl⟩ hv
  · replace hv := hv.2 h
    obtain ⟨r3, hv⟩ := hv
    refine am_xn 3 (c1 := (if zi u < zi v then 14 else 10, [.int (zi v), .int (zi w), .int (zi u)], [], M)) rfl (am_xlt r3 r1 (fun h => ?_) (fun h => ?_))
    · replace hv := hv.1 h
      refine am_xn 1 (c1 := (15, [.int (zi v), .int (zi w), .int (zi u)], [.int (zi 0)], M)) rfl ?_
      exact am_xr (some (.int (zi 0))) ⟨rfl, rfl, .boolean, rfl, rfl⟩ hv
    · replace hv := hv.2 h
      refine am_xn 2 (c1 := (15, [.int (zi v), .int (zi w), .int (zi u)], [.int (zi 1)], M)) rfl ?_
      exact am_xr (some (.int (zi 1))) ⟨rfl, rfl, .boolean, rfl, rfl⟩ hv
theorem sp_in (M : am_M) (v : Int) (w : Int) (u : Int) (g : zr v ∧ zr w ∧ zr u) : am_call t_Mo_in [.int (zi v), .int (zi w), .int (zi u)] M (some (.int (zi (if w ≤ v ∧ v ≤ u then 1 else 0)))) M := by
  refine am_call_of ⟨Nat.le_of_ble_eq_true rfl, rfl⟩ (vc_in v w u M _ ?_)
  obtain ⟨⟨_, _⟩, ⟨_, _⟩, ⟨_, _⟩⟩ := g
  (repeat' (first | apply And.intro | intro _)) <;> (first | rfl | omega | (split <;> (first | rfl | omega)))
end
section
/-! the law as functions: what both programs find -/
def zsum (f : Int → Int) : Nat → Int
  | 0 => 0
  | k + 1 => zsum f k + f k
def sm (f : Int → Int) (n : Int) : Int := zsum f n.toNat
theorem sm_0 (f : Int → Int) : sm f 0 = 0 := rfl
theorem sm_s (f : Int → Int) {n : Int} (h : 0 ≤ n) : sm f (n + 1) = sm f n + f n := by
  unfold sm
  rw [show (n + 1).toNat = n.toNat + 1 by omega, zsum, show ((n.toNat : Nat) : Int) = n by omega]
theorem zsum_le (f g : Int → Int) (k : Nat) (h : ∀ i : Int, 0 ≤ i → i < k → f i ≤ g i) : zsum f k ≤ zsum g k := by
  induction k with
  | zero => exact Int.le_refl _
  | succ k ih =>
    have h1 := ih (fun i h0 h1 => h i h0 (by omega))
    have h2 := h k (by omega) (by omega)
    show zsum f k + f k ≤ zsum g k + g k
    omega
theorem sm_le (f g : Int → Int) (n : Int) (h : ∀ i : Int, 0 ≤ i → i < n → f i ≤ g i) : sm f n ≤ sm g n := zsum_le f g _ (fun i h0 h1 => h i h0 (by omega))
theorem sm_congr {f g : Int → Int} {n : Int} (h : ∀ i : Int, 0 ≤ i → i < n → f i = g i) : sm f n = sm g n := by
  have h1 := sm_le f g n (fun i a b => by rw [h i a b]; exact Int.le_refl _)
  have h2 := sm_le g f n (fun i a b => by rw [h i a b]; exact Int.le_refl _)
  omega
theorem zsum_nn (f : Int → Int) (k : Nat) (h : ∀ i : Int, 0 ≤ i → i < k → 0 ≤ f i) : 0 ≤ zsum f k := by
  induction k with
  | zero => exact Int.le_refl _
  | succ k ih =>
    have h1 := ih (fun i h0 h1 => h i h0 (by omega))
    have h2 := h k (by omega) (by omega)
    show 0 ≤ zsum f k + f k
    omega
theorem sm_nn (f : Int → Int) (n : Int) (h : ∀ i : Int, 0 ≤ i → i < n → 0 ≤ f i) : 0 ≤ sm f n := zsum_nn f _ (fun i h0 h1 => h i h0 (by omega))
theorem zsum_mono (f : Int → Int) (k j : Nat) (h : ∀ i : Int, 0 ≤ i → i < k + j → 0 ≤ f i) : zsum f k ≤ zsum f (k + j) := by
  induction j with
  | zero => exact Int.le_refl _
  | succ j ih =>
    have h1 := ih (fun i h0 h1 => h i h0 (by omega))
    have h2 := h ((k + j : Nat) : Int) (by omega) (by omega)
    show zsum f k ≤ zsum f (k + j) + f ((k + j : Nat) : Int)
    omega
theorem sm_mono (f : Int → Int) {m n : Int} (h0 : 0 ≤ m) (h1 : m ≤ n) (h : ∀ i : Int, 0 ≤ i → i < n → 0 ≤ f i) : sm f m ≤ sm f n := by
  unfold sm
  have := zsum_mono f m.toNat (n.toNat - m.toNat) (fun i a b => h i a (by omega))
  rwa [show m.toNat + (n.toNat - m.toNat) = n.toNat by omega] at this
theorem sm_neg (f : Int → Int) {n : Int} (h : n ≤ 0) : sm f n = 0 := by
  unfold sm
  rw [show n.toNat = 0 by omega]
  rfl
theorem zsum_add (f g : Int → Int) (k : Nat) : zsum (fun i => f i + g i) k = zsum f k + zsum g k := by
  induction k with
  | zero => rfl
  | succ k ih =>
    show zsum _ k + (f k + g k) = zsum f k + f k + (zsum g k + g k)
    omega
theorem sm_addf (f g : Int → Int) (n : Int) : sm (fun i => f i + g i) n = sm f n + sm g n := zsum_add f g _
theorem zsum_pt (x v : Int) (k : Nat) (hx : 0 ≤ x) : zsum (fun i => if i = x then v else 0) k = if x < k then v else 0 := by
  induction k with
  | zero => rw [if_neg (by omega)]; rfl
  | succ k ih =>
    show zsum _ k + (if (k : Int) = x then v else 0) = _
    rw [ih]
    by_cases h1 : x < k
    · rw [if_pos h1, if_neg (by omega), if_pos (by omega)]; omega
    · by_cases h2 : (k : Int) = x
      · rw [if_neg h1, if_pos h2, if_pos (by omega)]; omega
      · rw [if_neg h1, if_neg h2, if_neg (by omega)]; omega
theorem sm_pt (x v : Int) {n : Int} (hx : 0 ≤ x) (hn : x < n) : sm (fun i => if i = x then v else 0) n = v := by
  unfold sm
  rw [zsum_pt x v _ hx, if_pos (by omega)]
def fu (f : Int → Int) (i v : Int) : Int → Int := fun j => if j = i then v else f j
theorem fu_s (f : Int → Int) (i v : Int) : fu f i v i = v := if_pos rfl
theorem fu_n (f : Int → Int) {i v j : Int} (h : ¬ j = i) : fu f i v j = f j := if_neg h
/-! a book lies in one row: its size, days, revocations, sizes, and then the operations by twelve cells -/
def fo (b : Int → Int) (a : Int) : Int := sm (fun k => b (41 + k)) a
def nops (b : Int → Int) : Int := fo b (b 0)
def pt (b : Int → Int) (o c : Int) : Int := b (61 + 12 * o + c)
def ia (b : Int → Int) (o : Int) : Int := sm (fun k => if pt b k 0 = 0 then 1 else 0) o
def WO (f : Int → Int) : Prop :=
  (0 ≤ f 0 ∧ f 0 ≤ 4) ∧
  (729 ≤ f 1 ∧ f 1 < 729000) ∧
  (0 ≤ f 2 ∧ f 2 < 729000) ∧
  (f 0 = 3 → 729 ≤ f 2) ∧
  (f 0 = 4 → f 2 ≤ 999) ∧
  (0 ≤ f 3 ∧ f 3 ≤ 999) ∧
  (f 4 = 0 ∨ f 4 = 1) ∧
  (0 ≤ f 5 ∧ f 5 ≤ 6) ∧
  (2 ≤ f 0 → f 5 = 0) ∧
  (∀ k, 0 ≤ k → k < f 5 → (0 ≤ f (6 + k) ∧ f (6 + k) ≤ 999) ∨ (1729 ≤ f (6 + k) ∧ f (6 + k) < 730000))
theorem WO.kd {f : Int → Int} (w : WO f) : 0 ≤ f 0 ∧ f 0 ≤ 4 := w.1
theorem WO.cd {f : Int → Int} (w : WO f) : 729 ≤ f 1 ∧ f 1 < 729000 := w.2.1
theorem WO.fs {f : Int → Int} (w : WO f) : 0 ≤ f 2 ∧ f 2 < 729000 := w.2.2.1
theorem WO.f3 {f : Int → Int} (w : WO f) : f 0 = 3 → 729 ≤ f 2 := w.2.2.2.1
theorem WO.f4 {f : Int → Int} (w : WO f) : f 0 = 4 → f 2 ≤ 999 := w.2.2.2.2.1
theorem WO.sc {f : Int → Int} (w : WO f) : 0 ≤ f 3 ∧ f 3 ≤ 999 := w.2.2.2.2.2.1
theorem WO.sv {f : Int → Int} (w : WO f) : f 4 = 0 ∨ f 4 = 1 := w.2.2.2.2.2.2.1
theorem WO.ln {f : Int → Int} (w : WO f) : 0 ≤ f 5 ∧ f 5 ≤ 6 := w.2.2.2.2.2.2.2.1
theorem WO.l2 {f : Int → Int} (w : WO f) : 2 ≤ f 0 → f 5 = 0 := w.2.2.2.2.2.2.2.2.1
theorem WO.wd {f : Int → Int} (w : WO f) : ∀ k, 0 ≤ k → k < f 5 → (0 ≤ f (6 + k) ∧ f (6 + k) ≤ 999) ∨ (1729 ≤ f (6 + k) ∧ f (6 + k) < 730000) := w.2.2.2.2.2.2.2.2.2
def WB (b : Int → Int) : Prop :=
  (0 ≤ b 0) ∧
  (b 0 ≤ 20) ∧
  (∀ a, 0 ≤ a → a < b 0 → 0 ≤ b (1 + a) ∧ b (1 + a) ≤ 9999) ∧
  (∀ a, 0 ≤ a → a < b 0 → b (21 + a) = 0 ∨ b (21 + a) = 1) ∧
  (∀ a, 0 ≤ a → a < b 0 → 1 ≤ b (41 + a) ∧ b (41 + a) ≤ 40) ∧
  (nops b ≤ 120) ∧
  (ia b (nops b) ≤ 40) ∧
  (∀ o, 0 ≤ o → o < nops b → WO (pt b o))
theorem WB.n0 {b : Int → Int} (w : WB b) : 0 ≤ b 0 := w.1
theorem WB.n1 {b : Int → Int} (w : WB b) : b 0 ≤ 20 := w.2.1
theorem WB.day {b : Int → Int} (w : WB b) : ∀ a, 0 ≤ a → a < b 0 → 0 ≤ b (1 + a) ∧ b (1 + a) ≤ 9999 := w.2.2.1
theorem WB.rev {b : Int → Int} (w : WB b) : ∀ a, 0 ≤ a → a < b 0 → b (21 + a) = 0 ∨ b (21 + a) = 1 := w.2.2.2.1
theorem WB.sz {b : Int → Int} (w : WB b) : ∀ a, 0 ≤ a → a < b 0 → 1 ≤ b (41 + a) ∧ b (41 + a) ≤ 40 := w.2.2.2.2.1
theorem WB.tot {b : Int → Int} (w : WB b) : nops b ≤ 120 := w.2.2.2.2.2.1
theorem WB.ins {b : Int → Int} (w : WB b) : ia b (nops b) ≤ 40 := w.2.2.2.2.2.2.1
theorem WB.op {b : Int → Int} (w : WB b) : ∀ o, 0 ≤ o → o < nops b → WO (pt b o) := w.2.2.2.2.2.2.2
theorem fo_s (b : Int → Int) {a : Int} (h : 0 ≤ a) : fo b (a + 1) = fo b a + b (41 + a) := sm_s _ h
theorem ia_s (b : Int → Int) {o : Int} (h : 0 ≤ o) : ia b (o + 1) = ia b o + if pt b o 0 = 0 then 1 else 0 := sm_s _ h
theorem WB.fo_mono {b : Int → Int} (w : WB b) {m n : Int} (h0 : 0 ≤ m) (h1 : m ≤ n) (h2 : n ≤ b 0) : fo b m ≤ fo b n := sm_mono _ h0 h1 (fun i a c => by have := (w.sz i a (by omega)).1; omega)
theorem WB.fo_nn {b : Int → Int} (w : WB b) {n : Int} (h2 : n ≤ b 0) : 0 ≤ fo b n := sm_nn _ _ (fun i a c => by have := (w.sz i a (by omega)).1; omega)
theorem WB.fo_le {b : Int → Int} (w : WB b) {n : Int} (h0 : 0 ≤ n) (h2 : n ≤ b 0) : fo b n ≤ nops b := w.fo_mono h0 h2 (Int.le_refl _)
theorem ia_nn (b : Int → Int) (o : Int) : 0 ≤ ia b o := sm_nn _ _ (fun i _ _ => by split <;> omega)
theorem ia_mono (b : Int → Int) {m n : Int} (h0 : 0 ≤ m) (h1 : m ≤ n) : ia b m ≤ ia b n := sm_mono _ h0 h1 (fun i _ _ => by split <;> omega)
theorem ia_le (b : Int → Int) (o : Int) (h : 0 ≤ o) : ia b o ≤ o := by
  have h1 := sm_le (fun k => if pt b k 0 = 0 then 1 else 0) (fun _ => 1) o (fun i _ _ => by show (if _ then (1 : Int) else 0) ≤ 1; split <;> omega)
  have h2 : sm (fun _ => 1) o = o := by
    obtain ⟨k, rfl⟩ : ∃ k : Nat, o = k := ⟨o.toNat, by omega⟩
    unfold sm
    rw [Int.toNat_natCast]
    clear h h1
    induction k with
    | zero => rfl
    | succ k ih => show zsum _ k + 1 = _; omega
  exact Int.le_trans h1 (Int.le_of_eq h2)
theorem WB.ia_lt {b : Int → Int} (w : WB b) {o : Int} (h0 : 0 ≤ o) (h1 : o < nops b) (hk : pt b o 0 = 0) : 0 ≤ ia b o ∧ ia b o < 40 := by
  have h2 := ia_s b h0
  rw [if_pos hk] at h2
  have h3 := ia_mono b (m := o + 1) (n := nops b) (by omega) (by omega)
  have h4 := w.ins
  have h5 := ia_nn b o
  omega
/-- which amendment an operation belongs to -/
theorem am_of {b : Int → Int} (w : WB b) {a a' o : Int} (h0 : 0 ≤ a) (h1 : a < b 0) (h2 : fo b a ≤ o) (h3 : o < fo b (a + 1)) (g0 : 0 ≤ a') (g1 : a' < b 0) (g2 : fo b a' ≤ o) (g3 : o < fo b (a' + 1)) : a = a' := by
  by_cases hl : a < a'
  · have := w.fo_mono (m := a + 1) (n := a') (by omega) (by omega) (by omega)
    omega
  · by_cases hg : a' < a
    · have := w.fo_mono (m := a' + 1) (n := a) (by omega) (by omega) (by omega)
      omega
    · omega
/-! the law -/
abbrev Lw : Type := (Int → Int) × (Int → Int) × (Int → Int) × (Int → Int → Int) × (Int → Int) × (Int → Int) × (List Int) × (List Int)
def Lw.code (L : Lw) : Int → Int := L.1
def Lw.len (L : Lw) : Int → Int := L.2.1
def Lw.lst (L : Lw) : Int → Int := L.2.2.1
def Lw.tx (L : Lw) : Int → Int → Int := L.2.2.2.1
def Lw.rs (L : Lw) : Int → Int := L.2.2.2.2.1
def Lw.af (L : Lw) : Int → Int := L.2.2.2.2.2.1
def Lw.sq (L : Lw) : List Int := L.2.2.2.2.2.2.1
def Lw.ef (L : Lw) : List Int := L.2.2.2.2.2.2.2
def isH (L : Lw) (x h : Int) : Prop := (h = -1 ∧ ∀ c, 0 ≤ c → c < 40 → ¬ L.code c = x) ∨ (0 ≤ h ∧ h < 40 ∧ L.code h = x)
theorem isH_ex (L : Lw) (x : Int) : ∃ h, isH L x h := by
  by_cases q : ∃ c, 0 ≤ c ∧ c < 40 ∧ L.code c = x
  · obtain ⟨c, h⟩ := q; exact ⟨c, Or.inr h⟩
  · exact ⟨-1, Or.inl ⟨rfl, fun c h0 h1 h2 => q ⟨c, h0, h1, h2⟩⟩⟩
noncomputable def hold (L : Lw) (x : Int) : Int := (isH_ex L x).choose
theorem hold_is (L : Lw) (x : Int) : isH L x (hold L x) := (isH_ex L x).choose_spec
def VL (L : Lw) : Prop :=
  (∀ c, 0 ≤ c → c < 40 → L.code c = 0 ∨ (729 ≤ L.code c ∧ L.code c < 729000)) ∧
  (∀ c d, 0 ≤ c → c < 40 → 0 ≤ d → d < 40 → L.code c = L.code d → ¬ L.code c = 0 → c = d) ∧
  (∀ c, 0 ≤ c → c < 40 → ¬ L.code c = 0 → 0 ≤ L.len c ∧ L.len c ≤ 6) ∧
  (∀ c, 0 ≤ c → c < 40 → ¬ L.code c = 0 → 0 ≤ L.lst c ∧ L.lst c ≤ 9999) ∧
  (∀ c k, 0 ≤ c → c < 40 → ¬ L.code c = 0 → 0 ≤ k → k < L.len c → 0 ≤ L.tx c k ∧ L.tx c k < 1040) ∧
  (∀ o, -1 ≤ L.rs o ∧ L.rs o ≤ 4) ∧
  (∀ o, (L.af o = -1 ∧ ¬ L.rs o = 0) ∨ (0 ≤ L.af o ∧ L.af o < 40 ∧ L.rs o = 0))
theorem VL.rg {L : Lw} (w : VL L) : ∀ c, 0 ≤ c → c < 40 → L.code c = 0 ∨ (729 ≤ L.code c ∧ L.code c < 729000) := w.1
theorem VL.un {L : Lw} (w : VL L) : ∀ c d, 0 ≤ c → c < 40 → 0 ≤ d → d < 40 → L.code c = L.code d → ¬ L.code c = 0 → c = d := w.2.1
theorem VL.ln {L : Lw} (w : VL L) : ∀ c, 0 ≤ c → c < 40 → ¬ L.code c = 0 → 0 ≤ L.len c ∧ L.len c ≤ 6 := w.2.2.1
theorem VL.ls {L : Lw} (w : VL L) : ∀ c, 0 ≤ c → c < 40 → ¬ L.code c = 0 → 0 ≤ L.lst c ∧ L.lst c ≤ 9999 := w.2.2.2.1
theorem VL.wt {L : Lw} (w : VL L) : ∀ c k, 0 ≤ c → c < 40 → ¬ L.code c = 0 → 0 ≤ k → k < L.len c → 0 ≤ L.tx c k ∧ L.tx c k < 1040 := w.2.2.2.2.1
theorem VL.rs {L : Lw} (w : VL L) : ∀ o, -1 ≤ L.rs o ∧ L.rs o ≤ 4 := w.2.2.2.2.2.1
theorem VL.af {L : Lw} (w : VL L) : ∀ o, (L.af o = -1 ∧ ¬ L.rs o = 0) ∨ (0 ≤ L.af o ∧ L.af o < 40 ∧ L.rs o = 0) := w.2.2.2.2.2.2
theorem hold_eq {L : Lw} (v : VL L) {x h : Int} (hx : ¬ x = 0) (hh : isH L x h) : h = hold L x := by
  rcases hh with ⟨h1, h2⟩ | ⟨h1, h2, h3⟩
  · rcases hold_is L x with ⟨g1, _⟩ | ⟨g1, g2, g3⟩
    · rw [h1, g1]
    · exact absurd g3 (h2 _ g1 g2)
  · rcases hold_is L x with ⟨_, g2⟩ | ⟨g1, g2, g3⟩
    · exact absurd h3 (g2 _ h1 h2)
    · exact v.un _ _ h1 h2 g1 g2 (h3.trans g3.symm) (by rw [h3]; exact hx)
theorem hold_rg (L : Lw) (x : Int) : -1 ≤ hold L x ∧ hold L x < 40 := by
  rcases hold_is L x with ⟨g1, _⟩ | ⟨g1, g2, _⟩ <;> omega
theorem hold_cd {L : Lw} {x : Int} (h : ¬ hold L x = -1) : 0 ≤ hold L x ∧ hold L x < 40 ∧ L.code (hold L x) = x := by
  rcases hold_is L x with ⟨g1, _⟩ | g
  · exact absurd g1 h
  · exact g
def has (L : Lw) (c w : Int) : Prop := ∃ k, 0 ≤ k ∧ k < L.len c ∧ L.tx c k = w
def rfd (b : Int → Int) (L : Lw) (o : Int) : Prop := ∀ k, 0 ≤ k → k < pt b o 5 → pt b o (6 + k) < 1000 ∨ ¬ hold L (pt b o (6 + k) - 1000) = -1
noncomputable def rsn (b : Int → Int) (L : Lw) (o : Int) : Int :=
  if ¬ pt b o 0 = 0 ∧ hold L (pt b o 1) = -1 then 1
  else if (pt b o 0 = 0 ∧ ¬ hold L (pt b o 1) = -1) ∨ (pt b o 0 = 3 ∧ ¬ hold L (pt b o 2) = -1) then 2
  else @ite _ (pt b o 0 = 4 ∧ ¬ has L (hold L (pt b o 1)) (pt b o 2)) (Classical.propDecidable _) 3
    (@ite _ (¬ rfd b L o) (Classical.propDecidable _) 4 0)
noncomputable def wd (b : Int → Int) (L : Lw) (o k : Int) : Int := if pt b o (6 + k) < 1000 then pt b o (6 + k) else 1000 + hold L (pt b o (6 + k) - 1000)
noncomputable def eff (b : Int → Int) (L : Lw) (o day c : Int) : Lw :=
  (if pt b o 0 = 0 then fu L.code c (pt b o 1) else if pt b o 0 = 2 then fu L.code c 0 else if pt b o 0 = 3 then fu L.code c (pt b o 2) else L.code,
   if pt b o 0 < 2 then fu L.len c (pt b o 5) else L.len,
   fu L.lst c day,
   if pt b o 0 < 2 then (fun x k => if x = c then wd b L o k else L.tx x k) else if pt b o 0 = 4 then (fun x k => if x = c ∧ L.tx x k = pt b o 2 then pt b o 3 else L.tx x k) else L.tx,
   fu L.rs o 0,
   fu L.af o c,
   L.sq ++ [o],
   L.ef ++ [o])
noncomputable def ops (b : Int → Int) (L : Lw) (o day : Int) : Lw :=
  if rsn b L o = 0 then eff b L o day (if pt b o 0 = 0 then ia b o else hold L (pt b o 1)) else (L.code, L.len, L.lst, L.tx, fu L.rs o (rsn b L o), fu L.af o (-1), L.sq ++ [o], L.ef)
/-- a key orders the amendments by days, then by numbers -/
def ky (b : Int → Int) (a : Int) : Int := b (1 + a) * 20 + a
abbrev du (b off : Int → Int) (day a : Int) : Prop := off a = 0 ∧ b (1 + a) ≤ day
def nkf (b off : Int → Int) (day last : Int) : Nat → Int
  | 0 => -1
  | k + 1 => if du b off day k ∧ last < ky b k ∧ (nkf b off day last k = -1 ∨ ky b k < nkf b off day last k) then ky b k else nkf b off day last k
def nk (b off : Int → Int) (day last : Int) : Int := nkf b off day last (b 0).toNat
noncomputable def cyf (b : Int → Int) (cas a : Int) (L : Lw) : Nat → Lw
  | 0 => L
  | j + 1 => if pt b (fo b a + j) 4 = 1 ∧ ¬ cas = -1 ∧ cas < b (1 + a) then cyf b cas a L j else ops b (cyf b cas a L j) (fo b a + j) (b (1 + a))
noncomputable def cy (b : Int → Int) (cas a : Int) (L : Lw) : Lw := cyf b cas a L (b (41 + a)).toNat
noncomputable def crf (b off : Int → Int) (day cas : Int) : Nat → Int → Lw → Lw
  | 0, _, L => L
  | f + 1, last, L => if nk b off day last = -1 then L else crf b off day cas f (nk b off day last) (cy b cas (nk b off day last % 20) L)
def L0 : Lw := (fun _ => 0, fun _ => 0, fun _ => 0, fun _ _ => 0, fun _ => -1, fun _ => -1, [], [])
noncomputable def con (b off : Int → Int) (day cas : Int) : Lw := crf b off day cas 20 (-1) L0
theorem nkf_is {b off : Int → Int} {day last : Int} (hl : -1 ≤ last) : ∀ k : Nat, (nkf b off day last k = -1 ∧ ∀ a : Int, 0 ≤ a → a < k → ¬ (du b off day a ∧ last < ky b a)) ∨
    (∃ a : Int, 0 ≤ a ∧ a < k ∧ nkf b off day last k = ky b a ∧ du b off day a ∧ last < ky b a ∧ ∀ a' : Int, 0 ≤ a' → a' < k → du b off day a' → last < ky b a' → ky b a ≤ ky b a') := by
  intro k
  induction k with
  | zero => exact Or.inl ⟨rfl, fun a h0 h1 => by omega⟩
  | succ k ih =>
    unfold nkf
    by_cases h : du b off day k ∧ last < ky b k ∧ (nkf b off day last k = -1 ∨ ky b k < nkf b off day last k)
    · rw [if_pos h]
      refine Or.inr ⟨k, by omega, by omega, rfl, h.1, h.2.1, fun a' h0 h1 h2 h3 => ?_⟩
      by_cases he : a' = k
      · rw [he]; exact Int.le_refl _
      · rcases ih with ⟨_, i2⟩ | ⟨a, _, _, i3, _, _, i6⟩
        · exact absurd ⟨h2, h3⟩ (i2 a' h0 (by omega))
        · have := i6 a' h0 (by omega) h2 h3
          have := h.2.2
          omega
    · rw [if_neg h]
      rcases ih with ⟨i1, i2⟩ | ⟨a, i1, i2, i3, i4, i5, i6⟩
      · refine Or.inl ⟨i1, fun a h0 h1 h2 => ?_⟩
        by_cases he : a = k
        · subst he; exact h ⟨h2.1, h2.2, Or.inl i1⟩
        · exact i2 a h0 (by omega) h2
      · refine Or.inr ⟨a, i1, by omega, i3, i4, i5, fun a' h0 h1 h2 h3 => ?_⟩
        by_cases he : a' = k
        · subst he
          by_cases hq : ky b k < ky b a
          · exact absurd ⟨h2, h3, Or.inr (by rw [i3]; exact hq)⟩ h
          · omega
        · exact i6 a' h0 (by omega) h2 h3
def isN (b off : Int → Int) (day last key : Int) : Prop := (key = -1 ∧ ∀ a : Int, 0 ≤ a → a < b 0 → ¬ (du b off day a ∧ last < ky b a)) ∨
    (∃ a : Int, 0 ≤ a ∧ a < b 0 ∧ key = ky b a ∧ du b off day a ∧ last < ky b a ∧ ∀ a' : Int, 0 ≤ a' → a' < b 0 → du b off day a' → last < ky b a' → ky b a ≤ ky b a')
theorem nk_is {b off : Int → Int} {day last : Int} (hl : -1 ≤ last) : isN b off day last (nk b off day last) := by
  rcases nkf_is (b := b) (off := off) (day := day) hl (b 0).toNat with ⟨h1, h2⟩ | ⟨a, h1, h2, h3⟩
  · exact Or.inl ⟨h1, fun a g0 g1 => h2 a g0 (by omega)⟩
  · exact Or.inr ⟨a, h1, by omega, h3.1, h3.2.1, h3.2.2.1, fun a' g0 g1 => h3.2.2.2 a' g0 (by omega)⟩
theorem WB.ky_nn {b : Int → Int} (w : WB b) {a : Int} (h0 : 0 ≤ a) (h1 : a < b 0) : 0 ≤ ky b a ∧ ky b a ≤ 199999 ∧ ky b a % 20 = a ∧ ky b a / 20 = b (1 + a) := by
  have := w.day a h0 h1
  have := w.n1
  unfold ky
  omega
theorem isN_eq {b off : Int → Int} {day last k k' : Int} (w : WB b) (h : isN b off day last k) (h' : isN b off day last k') : k = k' := by
  rcases h with ⟨h1, h2⟩ | ⟨a, h1, h2, h3, h4, h5, h6⟩ <;> rcases h' with ⟨g1, g2⟩ | ⟨a', g1, g2, g3, g4, g5, g6⟩
  · rw [h1, g1]
  · exact absurd ⟨g4, g5⟩ (h2 a' g1 g2)
  · exact absurd ⟨h4, h5⟩ (g2 a h1 h2)
  · have := h6 a' g1 g2 g4 g5
    have := g6 a h1 h2 h4 h5
    omega
/-- how many amendments come behind a key -/
def rem (b off : Int → Int) (day last : Int) : Int := sm (fun a => if du b off day a ∧ last < ky b a then 1 else 0) (b 0)
theorem rem_le {b off : Int → Int} {day last : Int} (w : WB b) : rem b off day last ≤ 20 := by
  have h1 := sm_le (fun a => if du b off day a ∧ last < ky b a then 1 else 0) (fun _ => 1) (b 0) (fun i _ _ => by show (if _ then (1 : Int) else 0) ≤ 1; split <;> omega)
  have h2 : ∀ k : Nat, zsum (fun _ => 1) k = k := by
    intro k
    induction k with
    | zero => rfl
    | succ k ih => show zsum _ k + 1 = _; omega
  have h3 := h2 (b 0).toNat
  have h4 : sm (fun _ => 1) (b 0) = ((b 0).toNat : Nat) := h3
  have := w.n1
  have := w.n0
  unfold rem
  omega
theorem rem_nn (b off : Int → Int) (day last : Int) : 0 ≤ rem b off day last := sm_nn _ _ (fun i _ _ => by split <;> omega)
theorem rem_dec {b off : Int → Int} {day last a : Int} (w : WB b) (h0 : 0 ≤ a) (h1 : a < b 0) (h2 : du b off day a) (h3 : last < ky b a) : rem b off day (ky b a) + 1 ≤ rem b off day last := by
  have h4 := sm_le (fun x => (if du b off day x ∧ ky b a < ky b x then 1 else 0) + (if x = a then 1 else 0)) (fun x => if du b off day x ∧ last < ky b x then 1 else 0) (b 0) (fun i g0 g1 => by
    show (if du b off day i ∧ ky b a < ky b i then (1 : Int) else 0) + (if i = a then 1 else 0) ≤ if du b off day i ∧ last < ky b i then 1 else 0
    by_cases hi : i = a
    · subst hi
      rw [if_neg (by omega), if_pos rfl, if_pos ⟨h2, h3⟩]; omega
    · rw [if_neg hi]
      by_cases hd : du b off day i ∧ ky b a < ky b i
      · rw [if_pos hd, if_pos ⟨hd.1, by omega⟩]; omega
      · rw [if_neg hd]; split <;> omega)
  rw [sm_addf, sm_pt a 1 h0 h1] at h4
  exact h4
end
