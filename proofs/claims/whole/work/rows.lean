section
-- ===== PART A: goes FIRST, ahead of the names: the tables' words, and 'selects' of the private methods out of them =====
/-- a private method of a class that the tables say can be made, by its rows of tables_1 -/
def lw_okq (q : MethodName × Nat) : Prop := (q.1.cls ≠ "java/lang/invoke/MethodHandle" ∧ q.1.cls ≠ "java/lang/invoke/VarHandle") ∧ Cond.instantiable q.1.cls q.2 ∈ tables_1 ∧ Cond.privateMethod q.1 ∈ tables_1 ∧ Cond.instanceMethod q.1 ∈ tables_1
theorem lw_p0 : lw_okq (⟨"GlossaryLinker$Tape", "start", "()V"⟩, 9) := ⟨⟨by decide +kernel, by decide +kernel⟩, List.mem_of_getElem? (i := 25) (by decide +kernel), List.mem_of_getElem? (i := 366) (by decide +kernel), List.mem_of_getElem? (i := 367) (by decide +kernel)⟩
theorem lw_p1 : lw_okq (⟨"GlossaryLinker$Tape", "takeSections", "()V"⟩, 9) := ⟨⟨by decide +kernel, by decide +kernel⟩, List.mem_of_getElem? (i := 25) (by decide +kernel), List.mem_of_getElem? (i := 370) (by decide +kernel), List.mem_of_getElem? (i := 371) (by decide +kernel)⟩
theorem lw_p2 : lw_okq (⟨"GlossaryLinker$Tape", "takeWord", "(Z)J"⟩, 9) := ⟨⟨by decide +kernel, by decide +kernel⟩, List.mem_of_getElem? (i := 25) (by decide +kernel), List.mem_of_getElem? (i := 374) (by decide +kernel), List.mem_of_getElem? (i := 375) (by decide +kernel)⟩
theorem lw_p3 : lw_okq (⟨"GlossaryLinker$Tape", "atLetter", "()Z"⟩, 9) := ⟨⟨by decide +kernel, by decide +kernel⟩, List.mem_of_getElem? (i := 25) (by decide +kernel), List.mem_of_getElem? (i := 378) (by decide +kernel), List.mem_of_getElem? (i := 379) (by decide +kernel)⟩
theorem lw_p4 : lw_okq (⟨"GlossaryLinker$Tape", "comingByte", "()I"⟩, 9) := ⟨⟨by decide +kernel, by decide +kernel⟩, List.mem_of_getElem? (i := 25) (by decide +kernel), List.mem_of_getElem? (i := 382) (by decide +kernel), List.mem_of_getElem? (i := 383) (by decide +kernel)⟩
theorem lw_p5 : lw_okq (⟨"GlossaryLinker$Tape", "fail", "(I)V"⟩, 9) := ⟨⟨by decide +kernel, by decide +kernel⟩, List.mem_of_getElem? (i := 25) (by decide +kernel), List.mem_of_getElem? (i := 386) (by decide +kernel), List.mem_of_getElem? (i := 387) (by decide +kernel)⟩
theorem lw_p6 : lw_okq (⟨"GlossaryLinker$Tape", "takeLetters", "(I)J"⟩, 9) := ⟨⟨by decide +kernel, by decide +kernel⟩, List.mem_of_getElem? (i := 25) (by decide +kernel), List.mem_of_getElem? (i := 390) (by decide +kernel), List.mem_of_getElem? (i := 391) (by decide +kernel)⟩
theorem lw_p7 : lw_okq (⟨"GlossaryLinker$Tape", "comes", "(I)Z"⟩, 9) := ⟨⟨by decide +kernel, by decide +kernel⟩, List.mem_of_getElem? (i := 25) (by decide +kernel), List.mem_of_getElem? (i := 402) (by decide +kernel), List.mem_of_getElem? (i := 403) (by decide +kernel)⟩
theorem lw_p8 : lw_okq (⟨"GlossaryLinker$Tape", "demand", "(I)V"⟩, 9) := ⟨⟨by decide +kernel, by decide +kernel⟩, List.mem_of_getElem? (i := 25) (by decide +kernel), List.mem_of_getElem? (i := 406) (by decide +kernel), List.mem_of_getElem? (i := 407) (by decide +kernel)⟩
theorem lw_p9 : lw_okq (⟨"GlossaryLinker$Tape", "finish", "()Z"⟩, 9) := ⟨⟨by decide +kernel, by decide +kernel⟩, List.mem_of_getElem? (i := 25) (by decide +kernel), List.mem_of_getElem? (i := 410) (by decide +kernel), List.mem_of_getElem? (i := 411) (by decide +kernel)⟩
theorem lw_p10 : lw_okq (⟨"GlossaryLinker", "startChange", "()V"⟩, 7) := ⟨⟨by decide +kernel, by decide +kernel⟩, List.mem_of_getElem? (i := 17) (by decide +kernel), List.mem_of_getElem? (i := 414) (by decide +kernel), List.mem_of_getElem? (i := 415) (by decide +kernel)⟩
theorem lw_p11 : lw_okq (⟨"GlossaryLinker$History", "dropOldest", "()V"⟩, 2) := ⟨⟨by decide +kernel, by decide +kernel⟩, List.mem_of_getElem? (i := 185) (by decide +kernel), List.mem_of_getElem? (i := 422) (by decide +kernel), List.mem_of_getElem? (i := 423) (by decide +kernel)⟩
theorem lw_p12 : lw_okq (⟨"GlossaryLinker", "forgetLinks", "()V"⟩, 7) := ⟨⟨by decide +kernel, by decide +kernel⟩, List.mem_of_getElem? (i := 17) (by decide +kernel), List.mem_of_getElem? (i := 459) (by decide +kernel), List.mem_of_getElem? (i := 460) (by decide +kernel)⟩
theorem lw_p13 : lw_okq (⟨"GlossaryLinker$Tape", "takeHints", "()V"⟩, 9) := ⟨⟨by decide +kernel, by decide +kernel⟩, List.mem_of_getElem? (i := 25) (by decide +kernel), List.mem_of_getElem? (i := 472) (by decide +kernel), List.mem_of_getElem? (i := 473) (by decide +kernel)⟩
theorem lw_p14 : lw_okq (⟨"GlossaryLinker$Tape", "takeOwnPage", "()V"⟩, 9) := ⟨⟨by decide +kernel, by decide +kernel⟩, List.mem_of_getElem? (i := 25) (by decide +kernel), List.mem_of_getElem? (i := 480) (by decide +kernel), List.mem_of_getElem? (i := 481) (by decide +kernel)⟩
theorem lw_p15 : lw_okq (⟨"GlossaryLinker$Tape", "demandEnd", "()V"⟩, 9) := ⟨⟨by decide +kernel, by decide +kernel⟩, List.mem_of_getElem? (i := 25) (by decide +kernel), List.mem_of_getElem? (i := 484) (by decide +kernel), List.mem_of_getElem? (i := 485) (by decide +kernel)⟩
def lw_privs_1 : List (MethodName × Nat) := [(⟨"GlossaryLinker$Tape", "start", "()V"⟩, 9), (⟨"GlossaryLinker$Tape", "takeSections", "()V"⟩, 9), (⟨"GlossaryLinker$Tape", "takeWord", "(Z)J"⟩, 9), (⟨"GlossaryLinker$Tape", "atLetter", "()Z"⟩, 9), (⟨"GlossaryLinker$Tape", "comingByte", "()I"⟩, 9), (⟨"GlossaryLinker$Tape", "fail", "(I)V"⟩, 9), (⟨"GlossaryLinker$Tape", "takeLetters", "(I)J"⟩, 9), (⟨"GlossaryLinker$Tape", "comes", "(I)Z"⟩, 9), (⟨"GlossaryLinker$Tape", "demand", "(I)V"⟩, 9), (⟨"GlossaryLinker$Tape", "finish", "()Z"⟩, 9), (⟨"GlossaryLinker", "startChange", "()V"⟩, 7), (⟨"GlossaryLinker$History", "dropOldest", "()V"⟩, 2), (⟨"GlossaryLinker", "forgetLinks", "()V"⟩, 7), (⟨"GlossaryLinker$Tape", "takeHints", "()V"⟩, 9), (⟨"GlossaryLinker$Tape", "takeOwnPage", "()V"⟩, 9), (⟨"GlossaryLinker$Tape", "demandEnd", "()V"⟩, 9)]
theorem lw_r1 : ∀ q ∈ lw_privs_1, lw_okq q := List.forall_mem_cons.mpr ⟨lw_p0, List.forall_mem_cons.mpr ⟨lw_p1, List.forall_mem_cons.mpr ⟨lw_p2, List.forall_mem_cons.mpr ⟨lw_p3, List.forall_mem_cons.mpr ⟨lw_p4, List.forall_mem_cons.mpr ⟨lw_p5, List.forall_mem_cons.mpr ⟨lw_p6, List.forall_mem_cons.mpr ⟨lw_p7, List.forall_mem_cons.mpr ⟨lw_p8, List.forall_mem_cons.mpr ⟨lw_p9, List.forall_mem_cons.mpr ⟨lw_p10, List.forall_mem_cons.mpr ⟨lw_p11, List.forall_mem_cons.mpr ⟨lw_p12, List.forall_mem_cons.mpr ⟨lw_p13, List.forall_mem_cons.mpr ⟨lw_p14, List.forall_mem_cons.mpr ⟨lw_p15, fun _ h => absurd h List.not_mem_nil⟩⟩⟩⟩⟩⟩⟩⟩⟩⟩⟩⟩⟩⟩⟩⟩
theorem lw_p16 : lw_okq (⟨"GlossaryLinker", "startEdit", "(I)V"⟩, 7) := ⟨⟨by decide +kernel, by decide +kernel⟩, List.mem_of_getElem? (i := 17) (by decide +kernel), List.mem_of_getElem? (i := 545) (by decide +kernel), List.mem_of_getElem? (i := 546) (by decide +kernel)⟩
theorem lw_p17 : lw_okq (⟨"GlossaryLinker", "linkingOf", "(I)LGlossaryLinker$Linking;"⟩, 7) := ⟨⟨by decide +kernel, by decide +kernel⟩, List.mem_of_getElem? (i := 17) (by decide +kernel), List.mem_of_getElem? (i := 549) (by decide +kernel), List.mem_of_getElem? (i := 550) (by decide +kernel)⟩
theorem lw_p18 : lw_okq (⟨"GlossaryLinker$Bases", "add", "(JI)V"⟩, 3) := ⟨⟨by decide +kernel, by decide +kernel⟩, List.mem_of_getElem? (i := 258) (by decide +kernel), List.mem_of_getElem? (i := 577) (by decide +kernel), List.mem_of_getElem? (i := 578) (by decide +kernel)⟩
theorem lw_p19 : lw_okq (⟨"GlossaryLinker$Linking", "findHead", "(LGlossaryLinker$State;I)V"⟩, 14) := ⟨⟨by decide +kernel, by decide +kernel⟩, List.mem_of_getElem? (i := 230) (by decide +kernel), List.mem_of_getElem? (i := 590) (by decide +kernel), List.mem_of_getElem? (i := 591) (by decide +kernel)⟩
theorem lw_p20 : lw_okq (⟨"GlossaryLinker$Linking", "chooseSense", "(LGlossaryLinker$State;I)V"⟩, 14) := ⟨⟨by decide +kernel, by decide +kernel⟩, List.mem_of_getElem? (i := 230) (by decide +kernel), List.mem_of_getElem? (i := 606) (by decide +kernel), List.mem_of_getElem? (i := 607) (by decide +kernel)⟩
theorem lw_p21 : lw_okq (⟨"GlossaryLinker$Linking", "scoreOf", "(LGlossaryLinker$Sense;II)I"⟩, 14) := ⟨⟨by decide +kernel, by decide +kernel⟩, List.mem_of_getElem? (i := 230) (by decide +kernel), List.mem_of_getElem? (i := 611) (by decide +kernel), List.mem_of_getElem? (i := 612) (by decide +kernel)⟩
theorem lw_p22 : lw_okq (⟨"GlossaryLinker$Linking", "goThrough", "(II[I)I"⟩, 14) := ⟨⟨by decide +kernel, by decide +kernel⟩, List.mem_of_getElem? (i := 230) (by decide +kernel), List.mem_of_getElem? (i := 624) (by decide +kernel), List.mem_of_getElem? (i := 625) (by decide +kernel)⟩
theorem lw_p23 : lw_okq (⟨"GlossaryLinker$Linking", "reasonInPass", "(II)I"⟩, 14) := ⟨⟨by decide +kernel, by decide +kernel⟩, List.mem_of_getElem? (i := 230) (by decide +kernel), List.mem_of_getElem? (i := 636) (by decide +kernel), List.mem_of_getElem? (i := 637) (by decide +kernel)⟩
theorem lw_p24 : lw_okq (⟨"GlossaryLinker", "endEdit", "(IIII)V"⟩, 7) := ⟨⟨by decide +kernel, by decide +kernel⟩, List.mem_of_getElem? (i := 17) (by decide +kernel), List.mem_of_getElem? (i := 677) (by decide +kernel), List.mem_of_getElem? (i := 678) (by decide +kernel)⟩
theorem lw_p25 : lw_okq (⟨"GlossaryLinker$Page", "hasSection", "(I)Z"⟩, 4) := ⟨⟨by decide +kernel, by decide +kernel⟩, List.mem_of_getElem? (i := 31) (by decide +kernel), List.mem_of_getElem? (i := 707) (by decide +kernel), List.mem_of_getElem? (i := 708) (by decide +kernel)⟩
theorem lw_p26 : lw_okq (⟨"GlossaryLinker$Page", "closeUpSections", "(I)V"⟩, 4) := ⟨⟨by decide +kernel, by decide +kernel⟩, List.mem_of_getElem? (i := 31) (by decide +kernel), List.mem_of_getElem? (i := 711) (by decide +kernel), List.mem_of_getElem? (i := 712) (by decide +kernel)⟩
theorem lw_p27 : lw_okq (⟨"GlossaryLinker", "linkedOnPage", "(II)I"⟩, 7) := ⟨⟨by decide +kernel, by decide +kernel⟩, List.mem_of_getElem? (i := 17) (by decide +kernel), List.mem_of_getElem? (i := 766) (by decide +kernel), List.mem_of_getElem? (i := 767) (by decide +kernel)⟩
theorem lw_p28 : lw_okq (⟨"GlossaryLinker", "linkedOnAllPages", "(I)I"⟩, 7) := ⟨⟨by decide +kernel, by decide +kernel⟩, List.mem_of_getElem? (i := 17) (by decide +kernel), List.mem_of_getElem? (i := 774) (by decide +kernel), List.mem_of_getElem? (i := 775) (by decide +kernel)⟩
theorem lw_p29 : lw_okq (⟨"GlossaryLinker", "meantOnAllPages", "(I)I"⟩, 7) := ⟨⟨by decide +kernel, by decide +kernel⟩, List.mem_of_getElem? (i := 17) (by decide +kernel), List.mem_of_getElem? (i := 778) (by decide +kernel), List.mem_of_getElem? (i := 779) (by decide +kernel)⟩
theorem lw_p30 : lw_okq (⟨"GlossaryLinker", "wordsOfAllPages", "()I"⟩, 7) := ⟨⟨by decide +kernel, by decide +kernel⟩, List.mem_of_getElem? (i := 17) (by decide +kernel), List.mem_of_getElem? (i := 853) (by decide +kernel), List.mem_of_getElem? (i := 854) (by decide +kernel)⟩
theorem lw_p31 : lw_okq (⟨"GlossaryLinker", "linksOfAllPages", "()I"⟩, 7) := ⟨⟨by decide +kernel, by decide +kernel⟩, List.mem_of_getElem? (i := 17) (by decide +kernel), List.mem_of_getElem? (i := 857) (by decide +kernel), List.mem_of_getElem? (i := 858) (by decide +kernel)⟩
def lw_privs_2 : List (MethodName × Nat) := [(⟨"GlossaryLinker", "startEdit", "(I)V"⟩, 7), (⟨"GlossaryLinker", "linkingOf", "(I)LGlossaryLinker$Linking;"⟩, 7), (⟨"GlossaryLinker$Bases", "add", "(JI)V"⟩, 3), (⟨"GlossaryLinker$Linking", "findHead", "(LGlossaryLinker$State;I)V"⟩, 14), (⟨"GlossaryLinker$Linking", "chooseSense", "(LGlossaryLinker$State;I)V"⟩, 14), (⟨"GlossaryLinker$Linking", "scoreOf", "(LGlossaryLinker$Sense;II)I"⟩, 14), (⟨"GlossaryLinker$Linking", "goThrough", "(II[I)I"⟩, 14), (⟨"GlossaryLinker$Linking", "reasonInPass", "(II)I"⟩, 14), (⟨"GlossaryLinker", "endEdit", "(IIII)V"⟩, 7), (⟨"GlossaryLinker$Page", "hasSection", "(I)Z"⟩, 4), (⟨"GlossaryLinker$Page", "closeUpSections", "(I)V"⟩, 4), (⟨"GlossaryLinker", "linkedOnPage", "(II)I"⟩, 7), (⟨"GlossaryLinker", "linkedOnAllPages", "(I)I"⟩, 7), (⟨"GlossaryLinker", "meantOnAllPages", "(I)I"⟩, 7), (⟨"GlossaryLinker", "wordsOfAllPages", "()I"⟩, 7), (⟨"GlossaryLinker", "linksOfAllPages", "()I"⟩, 7)]
theorem lw_r2 : ∀ q ∈ lw_privs_2, lw_okq q := List.forall_mem_cons.mpr ⟨lw_p16, List.forall_mem_cons.mpr ⟨lw_p17, List.forall_mem_cons.mpr ⟨lw_p18, List.forall_mem_cons.mpr ⟨lw_p19, List.forall_mem_cons.mpr ⟨lw_p20, List.forall_mem_cons.mpr ⟨lw_p21, List.forall_mem_cons.mpr ⟨lw_p22, List.forall_mem_cons.mpr ⟨lw_p23, List.forall_mem_cons.mpr ⟨lw_p24, List.forall_mem_cons.mpr ⟨lw_p25, List.forall_mem_cons.mpr ⟨lw_p26, List.forall_mem_cons.mpr ⟨lw_p27, List.forall_mem_cons.mpr ⟨lw_p28, List.forall_mem_cons.mpr ⟨lw_p29, List.forall_mem_cons.mpr ⟨lw_p30, List.forall_mem_cons.mpr ⟨lw_p31, fun _ h => absurd h List.not_mem_nil⟩⟩⟩⟩⟩⟩⟩⟩⟩⟩⟩⟩⟩⟩⟩⟩
theorem lw_p32 : lw_okq (⟨"GlossaryLinker", "sensesWithoutLinks", "()I"⟩, 7) := ⟨⟨by decide +kernel, by decide +kernel⟩, List.mem_of_getElem? (i := 17) (by decide +kernel), List.mem_of_getElem? (i := 861) (by decide +kernel), List.mem_of_getElem? (i := 862) (by decide +kernel)⟩
theorem lw_p33 : lw_okq (⟨"GlossaryLinkerModel", "begins", "()V"⟩, 29) := ⟨⟨by decide +kernel, by decide +kernel⟩, List.mem_of_getElem? (i := 869) (by decide +kernel), List.mem_of_getElem? (i := 977) (by decide +kernel), List.mem_of_getElem? (i := 978) (by decide +kernel)⟩
theorem lw_p34 : lw_okq (⟨"GlossaryLinkerModel", "readsPage", "()V"⟩, 29) := ⟨⟨by decide +kernel, by decide +kernel⟩, List.mem_of_getElem? (i := 869) (by decide +kernel), List.mem_of_getElem? (i := 981) (by decide +kernel), List.mem_of_getElem? (i := 982) (by decide +kernel)⟩
theorem lw_p35 : lw_okq (⟨"GlossaryLinkerModel", "readsWord", "(I)V"⟩, 29) := ⟨⟨by decide +kernel, by decide +kernel⟩, List.mem_of_getElem? (i := 869) (by decide +kernel), List.mem_of_getElem? (i := 985) (by decide +kernel), List.mem_of_getElem? (i := 986) (by decide +kernel)⟩
theorem lw_p36 : lw_okq (⟨"GlossaryLinkerModel", "isLetter", "()Z"⟩, 29) := ⟨⟨by decide +kernel, by decide +kernel⟩, List.mem_of_getElem? (i := 869) (by decide +kernel), List.mem_of_getElem? (i := 989) (by decide +kernel), List.mem_of_getElem? (i := 990) (by decide +kernel)⟩
theorem lw_p37 : lw_okq (⟨"GlossaryLinkerModel", "here", "()I"⟩, 29) := ⟨⟨by decide +kernel, by decide +kernel⟩, List.mem_of_getElem? (i := 869) (by decide +kernel), List.mem_of_getElem? (i := 993) (by decide +kernel), List.mem_of_getElem? (i := 994) (by decide +kernel)⟩
theorem lw_p38 : lw_okq (⟨"GlossaryLinkerModel", "fails", "(I)V"⟩, 29) := ⟨⟨by decide +kernel, by decide +kernel⟩, List.mem_of_getElem? (i := 869) (by decide +kernel), List.mem_of_getElem? (i := 997) (by decide +kernel), List.mem_of_getElem? (i := 998) (by decide +kernel)⟩
theorem lw_p39 : lw_okq (⟨"GlossaryLinkerModel", "word", "([II)V"⟩, 29) := ⟨⟨by decide +kernel, by decide +kernel⟩, List.mem_of_getElem? (i := 869) (by decide +kernel), List.mem_of_getElem? (i := 1001) (by decide +kernel), List.mem_of_getElem? (i := 1002) (by decide +kernel)⟩
theorem lw_p40 : lw_okq (⟨"GlossaryLinkerModel", "letters", "([III)I"⟩, 29) := ⟨⟨by decide +kernel, by decide +kernel⟩, List.mem_of_getElem? (i := 869) (by decide +kernel), List.mem_of_getElem? (i := 1005) (by decide +kernel), List.mem_of_getElem? (i := 1006) (by decide +kernel)⟩
theorem lw_p41 : lw_okq (⟨"GlossaryLinkerModel", "wants", "(I)V"⟩, 29) := ⟨⟨by decide +kernel, by decide +kernel⟩, List.mem_of_getElem? (i := 869) (by decide +kernel), List.mem_of_getElem? (i := 1009) (by decide +kernel), List.mem_of_getElem? (i := 1010) (by decide +kernel)⟩
theorem lw_p42 : lw_okq (⟨"GlossaryLinkerModel", "isNext", "(I)Z"⟩, 29) := ⟨⟨by decide +kernel, by decide +kernel⟩, List.mem_of_getElem? (i := 869) (by decide +kernel), List.mem_of_getElem? (i := 1013) (by decide +kernel), List.mem_of_getElem? (i := 1014) (by decide +kernel)⟩
theorem lw_p43 : lw_okq (⟨"GlossaryLinkerModel", "isWrong", "()Z"⟩, 29) := ⟨⟨by decide +kernel, by decide +kernel⟩, List.mem_of_getElem? (i := 869) (by decide +kernel), List.mem_of_getElem? (i := 1017) (by decide +kernel), List.mem_of_getElem? (i := 1018) (by decide +kernel)⟩
theorem lw_p44 : lw_okq (⟨"GlossaryLinkerModel", "keeps", "()V"⟩, 29) := ⟨⟨by decide +kernel, by decide +kernel⟩, List.mem_of_getElem? (i := 869) (by decide +kernel), List.mem_of_getElem? (i := 1021) (by decide +kernel), List.mem_of_getElem? (i := 1022) (by decide +kernel)⟩
theorem lw_p45 : lw_okq (⟨"GlossaryLinkerModel", "copies", "(II)V"⟩, 29) := ⟨⟨by decide +kernel, by decide +kernel⟩, List.mem_of_getElem? (i := 869) (by decide +kernel), List.mem_of_getElem? (i := 1025) (by decide +kernel), List.mem_of_getElem? (i := 1026) (by decide +kernel)⟩
theorem lw_p46 : lw_okq (⟨"GlossaryLinkerModel", "senses", "()I"⟩, 29) := ⟨⟨by decide +kernel, by decide +kernel⟩, List.mem_of_getElem? (i := 869) (by decide +kernel), List.mem_of_getElem? (i := 1036) (by decide +kernel), List.mem_of_getElem? (i := 1037) (by decide +kernel)⟩
theorem lw_p47 : lw_okq (⟨"GlossaryLinkerModel", "rules", "()I"⟩, 29) := ⟨⟨by decide +kernel, by decide +kernel⟩, List.mem_of_getElem? (i := 869) (by decide +kernel), List.mem_of_getElem? (i := 1047) (by decide +kernel), List.mem_of_getElem? (i := 1048) (by decide +kernel)⟩
def lw_privs_3 : List (MethodName × Nat) := [(⟨"GlossaryLinker", "sensesWithoutLinks", "()I"⟩, 7), (⟨"GlossaryLinkerModel", "begins", "()V"⟩, 29), (⟨"GlossaryLinkerModel", "readsPage", "()V"⟩, 29), (⟨"GlossaryLinkerModel", "readsWord", "(I)V"⟩, 29), (⟨"GlossaryLinkerModel", "isLetter", "()Z"⟩, 29), (⟨"GlossaryLinkerModel", "here", "()I"⟩, 29), (⟨"GlossaryLinkerModel", "fails", "(I)V"⟩, 29), (⟨"GlossaryLinkerModel", "word", "([II)V"⟩, 29), (⟨"GlossaryLinkerModel", "letters", "([III)I"⟩, 29), (⟨"GlossaryLinkerModel", "wants", "(I)V"⟩, 29), (⟨"GlossaryLinkerModel", "isNext", "(I)Z"⟩, 29), (⟨"GlossaryLinkerModel", "isWrong", "()Z"⟩, 29), (⟨"GlossaryLinkerModel", "keeps", "()V"⟩, 29), (⟨"GlossaryLinkerModel", "copies", "(II)V"⟩, 29), (⟨"GlossaryLinkerModel", "senses", "()I"⟩, 29), (⟨"GlossaryLinkerModel", "rules", "()I"⟩, 29)]
theorem lw_r3 : ∀ q ∈ lw_privs_3, lw_okq q := List.forall_mem_cons.mpr ⟨lw_p32, List.forall_mem_cons.mpr ⟨lw_p33, List.forall_mem_cons.mpr ⟨lw_p34, List.forall_mem_cons.mpr ⟨lw_p35, List.forall_mem_cons.mpr ⟨lw_p36, List.forall_mem_cons.mpr ⟨lw_p37, List.forall_mem_cons.mpr ⟨lw_p38, List.forall_mem_cons.mpr ⟨lw_p39, List.forall_mem_cons.mpr ⟨lw_p40, List.forall_mem_cons.mpr ⟨lw_p41, List.forall_mem_cons.mpr ⟨lw_p42, List.forall_mem_cons.mpr ⟨lw_p43, List.forall_mem_cons.mpr ⟨lw_p44, List.forall_mem_cons.mpr ⟨lw_p45, List.forall_mem_cons.mpr ⟨lw_p46, List.forall_mem_cons.mpr ⟨lw_p47, fun _ h => absurd h List.not_mem_nil⟩⟩⟩⟩⟩⟩⟩⟩⟩⟩⟩⟩⟩⟩⟩⟩
theorem lw_p48 : lw_okq (⟨"GlossaryLinkerModel", "budgetOf", "(I)I"⟩, 29) := ⟨⟨by decide +kernel, by decide +kernel⟩, List.mem_of_getElem? (i := 869) (by decide +kernel), List.mem_of_getElem? (i := 1070) (by decide +kernel), List.mem_of_getElem? (i := 1071) (by decide +kernel)⟩
theorem lw_p49 : lw_okq (⟨"GlossaryLinkerModel", "words", "(I)I"⟩, 29) := ⟨⟨by decide +kernel, by decide +kernel⟩, List.mem_of_getElem? (i := 869) (by decide +kernel), List.mem_of_getElem? (i := 1078) (by decide +kernel), List.mem_of_getElem? (i := 1079) (by decide +kernel)⟩
theorem lw_p50 : lw_okq (⟨"GlossaryLinkerModel", "isOneWord", "()Z"⟩, 29) := ⟨⟨by decide +kernel, by decide +kernel⟩, List.mem_of_getElem? (i := 869) (by decide +kernel), List.mem_of_getElem? (i := 1082) (by decide +kernel), List.mem_of_getElem? (i := 1083) (by decide +kernel)⟩
theorem lw_p51 : lw_okq (⟨"GlossaryLinkerModel", "begins", "(I)I"⟩, 29) := ⟨⟨by decide +kernel, by decide +kernel⟩, List.mem_of_getElem? (i := 869) (by decide +kernel), List.mem_of_getElem? (i := 1086) (by decide +kernel), List.mem_of_getElem? (i := 1087) (by decide +kernel)⟩
theorem lw_p52 : lw_okq (⟨"GlossaryLinkerModel", "links", "(I)V"⟩, 29) := ⟨⟨by decide +kernel, by decide +kernel⟩, List.mem_of_getElem? (i := 869) (by decide +kernel), List.mem_of_getElem? (i := 1090) (by decide +kernel), List.mem_of_getElem? (i := 1091) (by decide +kernel)⟩
theorem lw_p53 : lw_okq (⟨"GlossaryLinkerModel", "links", "(III)V"⟩, 29) := ⟨⟨by decide +kernel, by decide +kernel⟩, List.mem_of_getElem? (i := 869) (by decide +kernel), List.mem_of_getElem? (i := 1094) (by decide +kernel), List.mem_of_getElem? (i := 1095) (by decide +kernel)⟩
theorem lw_p54 : lw_okq (⟨"GlossaryLinkerModel", "bases", "(II)V"⟩, 29) := ⟨⟨by decide +kernel, by decide +kernel⟩, List.mem_of_getElem? (i := 869) (by decide +kernel), List.mem_of_getElem? (i := 1098) (by decide +kernel), List.mem_of_getElem? (i := 1099) (by decide +kernel)⟩
theorem lw_p55 : lw_okq (⟨"GlossaryLinkerModel", "lays", "(I[IIII)V"⟩, 29) := ⟨⟨by decide +kernel, by decide +kernel⟩, List.mem_of_getElem? (i := 869) (by decide +kernel), List.mem_of_getElem? (i := 1102) (by decide +kernel), List.mem_of_getElem? (i := 1103) (by decide +kernel)⟩
theorem lw_p56 : lw_okq (⟨"GlossaryLinkerModel", "isBase", "(II[III)Z"⟩, 29) := ⟨⟨by decide +kernel, by decide +kernel⟩, List.mem_of_getElem? (i := 869) (by decide +kernel), List.mem_of_getElem? (i := 1106) (by decide +kernel), List.mem_of_getElem? (i := 1107) (by decide +kernel)⟩
theorem lw_p57 : lw_okq (⟨"GlossaryLinkerModel", "applies", "(I[III[I)I"⟩, 29) := ⟨⟨by decide +kernel, by decide +kernel⟩, List.mem_of_getElem? (i := 869) (by decide +kernel), List.mem_of_getElem? (i := 1110) (by decide +kernel), List.mem_of_getElem? (i := 1111) (by decide +kernel)⟩
theorem lw_p58 : lw_okq (⟨"GlossaryLinkerModel", "means", "(II)V"⟩, 29) := ⟨⟨by decide +kernel, by decide +kernel⟩, List.mem_of_getElem? (i := 869) (by decide +kernel), List.mem_of_getElem? (i := 1114) (by decide +kernel), List.mem_of_getElem? (i := 1115) (by decide +kernel)⟩
theorem lw_p59 : lw_okq (⟨"GlossaryLinkerModel", "isHead", "(III)Z"⟩, 29) := ⟨⟨by decide +kernel, by decide +kernel⟩, List.mem_of_getElem? (i := 869) (by decide +kernel), List.mem_of_getElem? (i := 1118) (by decide +kernel), List.mem_of_getElem? (i := 1119) (by decide +kernel)⟩
theorem lw_p60 : lw_okq (⟨"GlossaryLinkerModel", "score", "(III)I"⟩, 29) := ⟨⟨by decide +kernel, by decide +kernel⟩, List.mem_of_getElem? (i := 869) (by decide +kernel), List.mem_of_getElem? (i := 1122) (by decide +kernel), List.mem_of_getElem? (i := 1123) (by decide +kernel)⟩
theorem lw_p61 : lw_okq (⟨"GlossaryLinkerModel", "hints", "(I)I"⟩, 29) := ⟨⟨by decide +kernel, by decide +kernel⟩, List.mem_of_getElem? (i := 869) (by decide +kernel), List.mem_of_getElem? (i := 1126) (by decide +kernel), List.mem_of_getElem? (i := 1127) (by decide +kernel)⟩
theorem lw_p62 : lw_okq (⟨"GlossaryLinkerModel", "sectionOf", "(II)I"⟩, 29) := ⟨⟨by decide +kernel, by decide +kernel⟩, List.mem_of_getElem? (i := 869) (by decide +kernel), List.mem_of_getElem? (i := 1130) (by decide +kernel), List.mem_of_getElem? (i := 1131) (by decide +kernel)⟩
theorem lw_p63 : lw_okq (⟨"GlossaryLinkerModel", "reason", "(IIII)I"⟩, 29) := ⟨⟨by decide +kernel, by decide +kernel⟩, List.mem_of_getElem? (i := 869) (by decide +kernel), List.mem_of_getElem? (i := 1137) (by decide +kernel), List.mem_of_getElem? (i := 1138) (by decide +kernel)⟩
def lw_privs_4 : List (MethodName × Nat) := [(⟨"GlossaryLinkerModel", "budgetOf", "(I)I"⟩, 29), (⟨"GlossaryLinkerModel", "words", "(I)I"⟩, 29), (⟨"GlossaryLinkerModel", "isOneWord", "()Z"⟩, 29), (⟨"GlossaryLinkerModel", "begins", "(I)I"⟩, 29), (⟨"GlossaryLinkerModel", "links", "(I)V"⟩, 29), (⟨"GlossaryLinkerModel", "links", "(III)V"⟩, 29), (⟨"GlossaryLinkerModel", "bases", "(II)V"⟩, 29), (⟨"GlossaryLinkerModel", "lays", "(I[IIII)V"⟩, 29), (⟨"GlossaryLinkerModel", "isBase", "(II[III)Z"⟩, 29), (⟨"GlossaryLinkerModel", "applies", "(I[III[I)I"⟩, 29), (⟨"GlossaryLinkerModel", "means", "(II)V"⟩, 29), (⟨"GlossaryLinkerModel", "isHead", "(III)Z"⟩, 29), (⟨"GlossaryLinkerModel", "score", "(III)I"⟩, 29), (⟨"GlossaryLinkerModel", "hints", "(I)I"⟩, 29), (⟨"GlossaryLinkerModel", "sectionOf", "(II)I"⟩, 29), (⟨"GlossaryLinkerModel", "reason", "(IIII)I"⟩, 29)]
theorem lw_r4 : ∀ q ∈ lw_privs_4, lw_okq q := List.forall_mem_cons.mpr ⟨lw_p48, List.forall_mem_cons.mpr ⟨lw_p49, List.forall_mem_cons.mpr ⟨lw_p50, List.forall_mem_cons.mpr ⟨lw_p51, List.forall_mem_cons.mpr ⟨lw_p52, List.forall_mem_cons.mpr ⟨lw_p53, List.forall_mem_cons.mpr ⟨lw_p54, List.forall_mem_cons.mpr ⟨lw_p55, List.forall_mem_cons.mpr ⟨lw_p56, List.forall_mem_cons.mpr ⟨lw_p57, List.forall_mem_cons.mpr ⟨lw_p58, List.forall_mem_cons.mpr ⟨lw_p59, List.forall_mem_cons.mpr ⟨lw_p60, List.forall_mem_cons.mpr ⟨lw_p61, List.forall_mem_cons.mpr ⟨lw_p62, List.forall_mem_cons.mpr ⟨lw_p63, fun _ h => absurd h List.not_mem_nil⟩⟩⟩⟩⟩⟩⟩⟩⟩⟩⟩⟩⟩⟩⟩⟩
theorem lw_p64 : lw_okq (⟨"GlossaryLinkerModel", "own", "(I)I"⟩, 29) := ⟨⟨by decide +kernel, by decide +kernel⟩, List.mem_of_getElem? (i := 869) (by decide +kernel), List.mem_of_getElem? (i := 1141) (by decide +kernel), List.mem_of_getElem? (i := 1142) (by decide +kernel)⟩
theorem lw_p65 : lw_okq (⟨"GlossaryLinkerModel", "linkOf", "(I)I"⟩, 29) := ⟨⟨by decide +kernel, by decide +kernel⟩, List.mem_of_getElem? (i := 869) (by decide +kernel), List.mem_of_getElem? (i := 1145) (by decide +kernel), List.mem_of_getElem? (i := 1146) (by decide +kernel)⟩
theorem lw_p66 : lw_okq (⟨"GlossaryLinkerModel", "puts", "(III)V"⟩, 29) := ⟨⟨by decide +kernel, by decide +kernel⟩, List.mem_of_getElem? (i := 869) (by decide +kernel), List.mem_of_getElem? (i := 1149) (by decide +kernel), List.mem_of_getElem? (i := 1150) (by decide +kernel)⟩
theorem lw_p67 : lw_okq (⟨"GlossaryLinkerModel", "tells", "(IIIZZ)V"⟩, 29) := ⟨⟨by decide +kernel, by decide +kernel⟩, List.mem_of_getElem? (i := 869) (by decide +kernel), List.mem_of_getElem? (i := 1153) (by decide +kernel), List.mem_of_getElem? (i := 1154) (by decide +kernel)⟩
theorem lw_p68 : lw_okq (⟨"GlossaryLinkerModel", "isWord", "(II)Z"⟩, 29) := ⟨⟨by decide +kernel, by decide +kernel⟩, List.mem_of_getElem? (i := 869) (by decide +kernel), List.mem_of_getElem? (i := 1161) (by decide +kernel), List.mem_of_getElem? (i := 1162) (by decide +kernel)⟩
theorem lw_p69 : lw_okq (⟨"GlossaryLinkerModel", "sections", "(I)I"⟩, 29) := ⟨⟨by decide +kernel, by decide +kernel⟩, List.mem_of_getElem? (i := 869) (by decide +kernel), List.mem_of_getElem? (i := 1197) (by decide +kernel), List.mem_of_getElem? (i := 1198) (by decide +kernel)⟩
theorem lw_p70 : lw_okq (⟨"GlossaryLinkerModel", "reasonsOf", "(II)I"⟩, 29) := ⟨⟨by decide +kernel, by decide +kernel⟩, List.mem_of_getElem? (i := 869) (by decide +kernel), List.mem_of_getElem? (i := 1201) (by decide +kernel), List.mem_of_getElem? (i := 1202) (by decide +kernel)⟩
theorem lw_p71 : lw_okq (⟨"GlossaryLinkerModel", "linkAt", "(II)I"⟩, 29) := ⟨⟨by decide +kernel, by decide +kernel⟩, List.mem_of_getElem? (i := 869) (by decide +kernel), List.mem_of_getElem? (i := 1209) (by decide +kernel), List.mem_of_getElem? (i := 1210) (by decide +kernel)⟩
def lw_privs_5 : List (MethodName × Nat) := [(⟨"GlossaryLinkerModel", "own", "(I)I"⟩, 29), (⟨"GlossaryLinkerModel", "linkOf", "(I)I"⟩, 29), (⟨"GlossaryLinkerModel", "puts", "(III)V"⟩, 29), (⟨"GlossaryLinkerModel", "tells", "(IIIZZ)V"⟩, 29), (⟨"GlossaryLinkerModel", "isWord", "(II)Z"⟩, 29), (⟨"GlossaryLinkerModel", "sections", "(I)I"⟩, 29), (⟨"GlossaryLinkerModel", "reasonsOf", "(II)I"⟩, 29), (⟨"GlossaryLinkerModel", "linkAt", "(II)I"⟩, 29)]
theorem lw_r5 : ∀ q ∈ lw_privs_5, lw_okq q := List.forall_mem_cons.mpr ⟨lw_p64, List.forall_mem_cons.mpr ⟨lw_p65, List.forall_mem_cons.mpr ⟨lw_p66, List.forall_mem_cons.mpr ⟨lw_p67, List.forall_mem_cons.mpr ⟨lw_p68, List.forall_mem_cons.mpr ⟨lw_p69, List.forall_mem_cons.mpr ⟨lw_p70, List.forall_mem_cons.mpr ⟨lw_p71, fun _ h => absurd h List.not_mem_nil⟩⟩⟩⟩⟩⟩⟩⟩
def lw_privs : List (MethodName × Nat) := lw_privs_1 ++ (lw_privs_2 ++ (lw_privs_3 ++ (lw_privs_4 ++ (lw_privs_5))))
def lw_tbl : List Cond := k2_sels lw_privs ++ tables_1
theorem lw_privs_ok : ∀ q ∈ lw_privs, lw_okq q := by
  show ∀ q ∈ lw_privs_1 ++ (lw_privs_2 ++ (lw_privs_3 ++ (lw_privs_4 ++ (lw_privs_5)))), lw_okq q
  exact List.forall_mem_append.mpr ⟨lw_r1, List.forall_mem_append.mpr ⟨lw_r2, List.forall_mem_append.mpr ⟨lw_r3, List.forall_mem_append.mpr ⟨lw_r4, lw_r5⟩⟩⟩⟩
end
section
def RX0 : String := "GlossaryLinker$Bases"
def TX0 : u_T := fun k => match k with
  | 0 => ("GlossaryLinker$Bases", "words", "[J", true)
  | 1 => ("GlossaryLinker$Bases", "levels", "[I", true)
  | _ => ("GlossaryLinker$Bases", "size", "I", false)
def tyX0 : Nat → FieldType := fun k => match k with
  | 0 => .array .long
  | 1 => .array .int
  | _ => .int
abbrev wsX00 : List Cond := u_ws RX0 TX0 3
theorem nmX0 : ∀ a, a < 3 → ∀ b, b < 3 → a ≠ b → (TX0 a).2.1 ≠ (TX0 b).2.1 := by decide +kernel
theorem tyX0_ok : ∀ k, k < 3 → parseFieldDescriptor (TX0 k).2.2.1 = some (tyX0 k) := by decide +kernel
abbrev cX0_init : ByteArray := prog_2_method_1_code
def yX0_init : MethodName := ⟨RX0, "<init>", "()V"⟩
abbrev cX0_wordAt : ByteArray := prog_2_method_2_code
def yX0_wordAt : MethodName := ⟨RX0, "wordAt", "(I)J"⟩
abbrev cX0_levelAt : ByteArray := prog_2_method_3_code
def yX0_levelAt : MethodName := ⟨RX0, "levelAt", "(I)I"⟩
abbrev cX0_has : ByteArray := prog_2_method_4_code
def yX0_has : MethodName := ⟨RX0, "has", "(J)Z"⟩
abbrev cX0_followFrom : ByteArray := prog_2_method_5_code
def yX0_followFrom : MethodName := ⟨RX0, "followFrom", "(LGlossaryLinker$State;J)V"⟩
abbrev cX0_add : ByteArray := prog_2_method_6_code
def yX0_add : MethodName := ⟨RX0, "add", "(JI)V"⟩
def RX1 : String := "GlossaryLinker$Edit"
def TX1 : u_T := fun k => match k with
  | 0 => ("GlossaryLinker$Edit", "before", "[I", true)
  | 1 => ("GlossaryLinker$Edit", "after", "[I", true)
  | 2 => ("GlossaryLinker$Edit", "came", "I", false)
  | 3 => ("GlossaryLinker$Edit", "went", "I", false)
  | _ => ("GlossaryLinker$Edit", "first", "I", false)
def tyX1 : Nat → FieldType := fun k => match k with
  | 0 => .array .int
  | 1 => .array .int
  | 2 => .int
  | 3 => .int
  | _ => .int
abbrev wsX10 : List Cond := u_ws RX1 TX1 5
theorem nmX1 : ∀ a, a < 5 → ∀ b, b < 5 → a ≠ b → (TX1 a).2.1 ≠ (TX1 b).2.1 := by decide +kernel
theorem tyX1_ok : ∀ k, k < 5 → parseFieldDescriptor (TX1 k).2.2.1 = some (tyX1 k) := by decide +kernel
abbrev cX1_init : ByteArray := prog_3_method_1_code
def yX1_init : MethodName := ⟨RX1, "<init>", "()V"⟩
abbrev cX1_compare : ByteArray := prog_3_method_2_code
def yX1_compare : MethodName := ⟨RX1, "compare", "(III)V"⟩
abbrev cX1_placeOf : ByteArray := prog_3_method_3_code
def yX1_placeOf : MethodName := ⟨RX1, "placeOf", "(IIII)I"⟩
abbrev cX1_isLinkOnlyHere : ByteArray := prog_3_method_4_code
def yX1_isLinkOnlyHere : MethodName := ⟨RX1, "isLinkOnlyHere", "([II[II)Z"⟩
def RX2 : String := "GlossaryLinker$History"
def TX2 : u_T := fun k => match k with
  | 0 => ("GlossaryLinker$History", "states", "[LGlossaryLinker$State;", true)
  | _ => ("GlossaryLinker$History", "size", "I", false)
def tyX2 : Nat → FieldType := fun k => match k with
  | 0 => .array (.object "GlossaryLinker$State")
  | _ => .int
abbrev wsX20 : List Cond := u_ws RX2 TX2 2
theorem nmX2 : ∀ a, a < 2 → ∀ b, b < 2 → a ≠ b → (TX2 a).2.1 ≠ (TX2 b).2.1 := by decide +kernel
theorem tyX2_ok : ∀ k, k < 2 → parseFieldDescriptor (TX2 k).2.2.1 = some (tyX2 k) := by decide +kernel
abbrev cX2_init : ByteArray := prog_4_method_1_code
def yX2_init : MethodName := ⟨RX2, "<init>", "()V"⟩
abbrev cX2_keep : ByteArray := prog_4_method_2_code
def yX2_keep : MethodName := ⟨RX2, "keep", "(LGlossaryLinker$State;)V"⟩
abbrev cX2_dropOldest : ByteArray := prog_4_method_3_code
def yX2_dropOldest : MethodName := ⟨RX2, "dropOldest", "()V"⟩
abbrev cX2_takeLatest : ByteArray := prog_4_method_4_code
def yX2_takeLatest : MethodName := ⟨RX2, "takeLatest", "(LGlossaryLinker$State;)V"⟩
def RX3 : String := "GlossaryLinker$Linking"
def TX3 : u_T := fun k => match k with
  | 0 => ("GlossaryLinker$Linking", "bases", "[LGlossaryLinker$Bases;", true)
  | 1 => ("GlossaryLinker$Linking", "sections", "[I", true)
  | 2 => ("GlossaryLinker$Linking", "heads", "[J", true)
  | 3 => ("GlossaryLinker$Linking", "levels", "[I", true)
  | 4 => ("GlossaryLinker$Linking", "meant", "[I", true)
  | 5 => ("GlossaryLinker$Linking", "scores", "[I", true)
  | 6 => ("GlossaryLinker$Linking", "onOwnPage", "[Z", true)
  | 7 => ("GlossaryLinker$Linking", "reasons", "[I", true)
  | 8 => ("GlossaryLinker$Linking", "thought", "[I", true)
  | 9 => ("GlossaryLinker$Linking", "pass", "LGlossaryLinker$Pass;", true)
  | 10 => ("GlossaryLinker$Linking", "size", "I", false)
  | 11 => ("GlossaryLinker$Linking", "gap", "I", false)
  | 12 => ("GlossaryLinker$Linking", "budget", "I", false)
  | _ => ("GlossaryLinker$Linking", "fresh", "Z", false)
def tyX3 : Nat → FieldType := fun k => match k with
  | 0 => .array (.object "GlossaryLinker$Bases")
  | 1 => .array .int
  | 2 => .array .long
  | 3 => .array .int
  | 4 => .array .int
  | 5 => .array .int
  | 6 => .array .boolean
  | 7 => .array .int
  | 8 => .array .int
  | 9 => .object "GlossaryLinker$Pass"
  | 10 => .int
  | 11 => .int
  | 12 => .int
  | _ => .boolean
abbrev wsX30 : List Cond := u_ws RX3 TX3 14
theorem nmX3 : ∀ a, a < 14 → ∀ b, b < 14 → a ≠ b → (TX3 a).2.1 ≠ (TX3 b).2.1 := by decide +kernel
theorem tyX3_ok : ∀ k, k < 14 → parseFieldDescriptor (TX3 k).2.2.1 = some (tyX3 k) := by decide +kernel
abbrev cX3_init : ByteArray := prog_5_method_1_code
def yX3_init : MethodName := ⟨RX3, "<init>", "()V"⟩
abbrev cX3_followFrom : ByteArray := prog_5_method_2_code
def yX3_followFrom : MethodName := ⟨RX3, "followFrom", "(LGlossaryLinker$State;I)V"⟩
abbrev cX3_findHead : ByteArray := prog_5_method_3_code
def yX3_findHead : MethodName := ⟨RX3, "findHead", "(LGlossaryLinker$State;I)V"⟩
abbrev cX3_chooseSense : ByteArray := prog_5_method_4_code
def yX3_chooseSense : MethodName := ⟨RX3, "chooseSense", "(LGlossaryLinker$State;I)V"⟩
abbrev cX3_scoreOf : ByteArray := prog_5_method_5_code
def yX3_scoreOf : MethodName := ⟨RX3, "scoreOf", "(LGlossaryLinker$Sense;II)I"⟩
abbrev cX3_goThrough : ByteArray := prog_5_method_6_code
def yX3_goThrough : MethodName := ⟨RX3, "goThrough", "(II[I)I"⟩
abbrev cX3_reasonInPass : ByteArray := prog_5_method_7_code
def yX3_reasonInPass : MethodName := ⟨RX3, "reasonInPass", "(II)I"⟩
abbrev cX3_isOnOwnPage : ByteArray := prog_5_method_8_code
def yX3_isOnOwnPage : MethodName := ⟨RX3, "isOnOwnPage", "(I)Z"⟩
abbrev cX3_basesAt : ByteArray := prog_5_method_9_code
def yX3_basesAt : MethodName := ⟨RX3, "basesAt", "(I)LGlossaryLinker$Bases;"⟩
abbrev cX3_baseCountAt : ByteArray := prog_5_method_10_code
def yX3_baseCountAt : MethodName := ⟨RX3, "baseCountAt", "(I)I"⟩
abbrev cX3_sectionAt : ByteArray := prog_5_method_11_code
def yX3_sectionAt : MethodName := ⟨RX3, "sectionAt", "(I)I"⟩
abbrev cX3_levelAt : ByteArray := prog_5_method_12_code
def yX3_levelAt : MethodName := ⟨RX3, "levelAt", "(I)I"⟩
abbrev cX3_meantAt : ByteArray := prog_5_method_13_code
def yX3_meantAt : MethodName := ⟨RX3, "meantAt", "(I)I"⟩
abbrev cX3_scoreAt : ByteArray := prog_5_method_14_code
def yX3_scoreAt : MethodName := ⟨RX3, "scoreAt", "(I)I"⟩
abbrev cX3_reasonAt : ByteArray := prog_5_method_15_code
def yX3_reasonAt : MethodName := ⟨RX3, "reasonAt", "(I)I"⟩
abbrev cX3_linkedSenseAt : ByteArray := prog_5_method_16_code
def yX3_linkedSenseAt : MethodName := ⟨RX3, "linkedSenseAt", "(I)I"⟩
abbrev cX3_linksAheadOf : ByteArray := prog_5_method_17_code
def yX3_linksAheadOf : MethodName := ⟨RX3, "linksAheadOf", "(I)I"⟩
abbrev cX3_wordsWithReason : ByteArray := prog_5_method_18_code
def yX3_wordsWithReason : MethodName := ⟨RX3, "wordsWithReason", "(I)I"⟩
abbrev cX3_wordsLinkedTo : ByteArray := prog_5_method_19_code
def yX3_wordsLinkedTo : MethodName := ⟨RX3, "wordsLinkedTo", "(I)I"⟩
abbrev cX3_linkedSenses : ByteArray := prog_5_method_20_code
def yX3_linkedSenses : MethodName := ⟨RX3, "linkedSenses", "()I"⟩
abbrev cX3_wordsThatMean : ByteArray := prog_5_method_21_code
def yX3_wordsThatMean : MethodName := ⟨RX3, "wordsThatMean", "(I)I"⟩
abbrev cX3_linkedWord : ByteArray := prog_5_method_22_code
def yX3_linkedWord : MethodName := ⟨RX3, "linkedWord", "(I)I"⟩
abbrev cX3_copyLinkedSenses : ByteArray := prog_5_method_23_code
def yX3_copyLinkedSenses : MethodName := ⟨RX3, "copyLinkedSenses", "([I)V"⟩
abbrev cX3_enoughBudget : ByteArray := prog_5_method_24_code
def yX3_enoughBudget : MethodName := ⟨RX3, "enoughBudget", "()I"⟩
abbrev cX3_firstOtherWithout : ByteArray := prog_5_method_25_code
def yX3_firstOtherWithout : MethodName := ⟨RX3, "firstOtherWithout", "(I)I"⟩
abbrev cX3_linksFromTheLast : ByteArray := prog_5_method_26_code
def yX3_linksFromTheLast : MethodName := ⟨RX3, "linksFromTheLast", "()I"⟩
abbrev cX3_asksAhead : ByteArray := prog_5_method_27_code
def yX3_asksAhead : MethodName := ⟨RX3, "asksAhead", "(LGlossaryLinker$Linking;II)Z"⟩
def RX4 : String := "GlossaryLinker$Page"
def TX4 : u_T := fun k => match k with
  | 0 => ("GlossaryLinker$Page", "words", "[J", true)
  | 1 => ("GlossaryLinker$Page", "sections", "[I", true)
  | 2 => ("GlossaryLinker$Page", "size", "I", false)
  | _ => ("GlossaryLinker$Page", "budget", "I", false)
def tyX4 : Nat → FieldType := fun k => match k with
  | 0 => .array .long
  | 1 => .array .int
  | 2 => .int
  | _ => .int
abbrev wsX40 : List Cond := u_ws RX4 TX4 4
theorem nmX4 : ∀ a, a < 4 → ∀ b, b < 4 → a ≠ b → (TX4 a).2.1 ≠ (TX4 b).2.1 := by decide +kernel
theorem tyX4_ok : ∀ k, k < 4 → parseFieldDescriptor (TX4 k).2.2.1 = some (tyX4 k) := by decide +kernel
abbrev cX4_init : ByteArray := prog_6_method_1_code
def yX4_init : MethodName := ⟨RX4, "<init>", "()V"⟩
abbrev cX4_wordAt : ByteArray := prog_6_method_2_code
def yX4_wordAt : MethodName := ⟨RX4, "wordAt", "(I)J"⟩
abbrev cX4_sectionAt : ByteArray := prog_6_method_3_code
def yX4_sectionAt : MethodName := ⟨RX4, "sectionAt", "(I)I"⟩
abbrev cX4_sectionCount : ByteArray := prog_6_method_4_code
def yX4_sectionCount : MethodName := ⟨RX4, "sectionCount", "()I"⟩
abbrev cX4_addWord : ByteArray := prog_6_method_5_code
def yX4_addWord : MethodName := ⟨RX4, "addWord", "(JI)V"⟩
abbrev cX4_insertWord : ByteArray := prog_6_method_6_code
def yX4_insertWord : MethodName := ⟨RX4, "insertWord", "(IJ)V"⟩
abbrev cX4_replaceWord : ByteArray := prog_6_method_7_code
def yX4_replaceWord : MethodName := ⟨RX4, "replaceWord", "(IJ)V"⟩
abbrev cX4_dropWord : ByteArray := prog_6_method_8_code
def yX4_dropWord : MethodName := ⟨RX4, "dropWord", "(I)V"⟩
abbrev cX4_hasSection : ByteArray := prog_6_method_9_code
def yX4_hasSection : MethodName := ⟨RX4, "hasSection", "(I)Z"⟩
abbrev cX4_closeUpSections : ByteArray := prog_6_method_10_code
def yX4_closeUpSections : MethodName := ⟨RX4, "closeUpSections", "(I)V"⟩
abbrev cX4_copyWords : ByteArray := prog_6_method_11_code
def yX4_copyWords : MethodName := ⟨RX4, "copyWords", "(LGlossaryLinker$Page;)V"⟩
abbrev cX4_copyFrom : ByteArray := prog_6_method_12_code
def yX4_copyFrom : MethodName := ⟨RX4, "copyFrom", "(LGlossaryLinker$Page;)V"⟩
def RX5 : String := "GlossaryLinker$Pass"
def TX5 : u_T := fun k => match k with
  | 0 => ("GlossaryLinker$Pass", "section", "I", false)
  | 1 => ("GlossaryLinker$Pass", "sensesOfSection", "I", false)
  | 2 => ("GlossaryLinker$Pass", "latest", "I", false)
  | _ => ("GlossaryLinker$Pass", "links", "I", false)
def tyX5 : Nat → FieldType := fun k => match k with
  | 0 => .int
  | 1 => .int
  | 2 => .int
  | _ => .int
abbrev wsX50 : List Cond := u_ws RX5 TX5 4
theorem nmX5 : ∀ a, a < 4 → ∀ b, b < 4 → a ≠ b → (TX5 a).2.1 ≠ (TX5 b).2.1 := by decide +kernel
theorem tyX5_ok : ∀ k, k < 4 → parseFieldDescriptor (TX5 k).2.2.1 = some (tyX5 k) := by decide +kernel
abbrev cX5_init : ByteArray := prog_7_method_1_code
def yX5_init : MethodName := ⟨RX5, "<init>", "()V"⟩
abbrev cX5_start : ByteArray := prog_7_method_2_code
def yX5_start : MethodName := ⟨RX5, "start", "()V"⟩
abbrev cX5_enter : ByteArray := prog_7_method_3_code
def yX5_enter : MethodName := ⟨RX5, "enter", "(I)V"⟩
abbrev cX5_reasonFor : ByteArray := prog_7_method_4_code
def yX5_reasonFor : MethodName := ⟨RX5, "reasonFor", "(IIII)I"⟩
abbrev cX5_add : ByteArray := prog_7_method_5_code
def yX5_add : MethodName := ⟨RX5, "add", "(II)V"⟩
def RX6 : String := "GlossaryLinker$Rule"
def TX6 : u_T := fun k => match k with
  | 0 => ("GlossaryLinker$Rule", "ending", "J", false)
  | 1 => ("GlossaryLinker$Rule", "replacement", "J", false)
  | 2 => ("GlossaryLinker$Rule", "endingBits", "I", false)
  | _ => ("GlossaryLinker$Rule", "replacementBits", "I", false)
def tyX6 : Nat → FieldType := fun k => match k with
  | 0 => .long
  | 1 => .long
  | 2 => .int
  | _ => .int
abbrev wsX60 : List Cond := u_ws RX6 TX6 4
theorem nmX6 : ∀ a, a < 4 → ∀ b, b < 4 → a ≠ b → (TX6 a).2.1 ≠ (TX6 b).2.1 := by decide +kernel
theorem tyX6_ok : ∀ k, k < 4 → parseFieldDescriptor (TX6 k).2.2.1 = some (tyX6 k) := by decide +kernel
abbrev cX6_init : ByteArray := prog_8_method_1_code
def yX6_init : MethodName := ⟨RX6, "<init>", "()V"⟩
abbrev cX6_become : ByteArray := prog_8_method_2_code
def yX6_become : MethodName := ⟨RX6, "become", "(JJ)V"⟩
abbrev cX6_applyTo : ByteArray := prog_8_method_3_code
def yX6_applyTo : MethodName := ⟨RX6, "applyTo", "(J)J"⟩
abbrev cX6_copyFrom : ByteArray := prog_8_method_4_code
def yX6_copyFrom : MethodName := ⟨RX6, "copyFrom", "(LGlossaryLinker$Rule;)V"⟩
def RX7 : String := "GlossaryLinker$Sense"
def TX7 : u_T := fun k => match k with
  | 0 => ("GlossaryLinker$Sense", "head", "J", false)
  | 1 => ("GlossaryLinker$Sense", "hints", "[J", true)
  | 2 => ("GlossaryLinker$Sense", "hintCount", "I", false)
  | _ => ("GlossaryLinker$Sense", "own", "I", false)
def tyX7 : Nat → FieldType := fun k => match k with
  | 0 => .long
  | 1 => .array .long
  | 2 => .int
  | _ => .int
abbrev wsX70 : List Cond := u_ws RX7 TX7 4
theorem nmX7 : ∀ a, a < 4 → ∀ b, b < 4 → a ≠ b → (TX7 a).2.1 ≠ (TX7 b).2.1 := by decide +kernel
theorem tyX7_ok : ∀ k, k < 4 → parseFieldDescriptor (TX7 k).2.2.1 = some (tyX7 k) := by decide +kernel
abbrev cX7_init : ByteArray := prog_9_method_1_code
def yX7_init : MethodName := ⟨RX7, "<init>", "()V"⟩
abbrev cX7_hintAt : ByteArray := prog_9_method_2_code
def yX7_hintAt : MethodName := ⟨RX7, "hintAt", "(I)J"⟩
abbrev cX7_addHint : ByteArray := prog_9_method_3_code
def yX7_addHint : MethodName := ⟨RX7, "addHint", "(J)V"⟩
abbrev cX7_copyFrom : ByteArray := prog_9_method_4_code
def yX7_copyFrom : MethodName := ⟨RX7, "copyFrom", "(LGlossaryLinker$Sense;)V"⟩
def RX8 : String := "GlossaryLinker$State"
def TX8 : u_T := fun k => match k with
  | 0 => ("GlossaryLinker$State", "pages", "[LGlossaryLinker$Page;", true)
  | 1 => ("GlossaryLinker$State", "senses", "[LGlossaryLinker$Sense;", true)
  | 2 => ("GlossaryLinker$State", "rules", "[LGlossaryLinker$Rule;", true)
  | 3 => ("GlossaryLinker$State", "senseCount", "I", false)
  | 4 => ("GlossaryLinker$State", "ruleCount", "I", false)
  | 5 => ("GlossaryLinker$State", "window", "I", false)
  | _ => ("GlossaryLinker$State", "gap", "I", false)
def tyX8 : Nat → FieldType := fun k => match k with
  | 0 => .array (.object "GlossaryLinker$Page")
  | 1 => .array (.object "GlossaryLinker$Sense")
  | 2 => .array (.object "GlossaryLinker$Rule")
  | 3 => .int
  | 4 => .int
  | 5 => .int
  | _ => .int
abbrev wsX80 : List Cond := u_ws RX8 TX8 7
theorem nmX8 : ∀ a, a < 7 → ∀ b, b < 7 → a ≠ b → (TX8 a).2.1 ≠ (TX8 b).2.1 := by decide +kernel
theorem tyX8_ok : ∀ k, k < 7 → parseFieldDescriptor (TX8 k).2.2.1 = some (tyX8 k) := by decide +kernel
abbrev cX8_init : ByteArray := prog_10_method_1_code
def yX8_init : MethodName := ⟨RX8, "<init>", "()V"⟩
abbrev cX8_pageAt : ByteArray := prog_10_method_2_code
def yX8_pageAt : MethodName := ⟨RX8, "pageAt", "(I)LGlossaryLinker$Page;"⟩
abbrev cX8_senseAt : ByteArray := prog_10_method_3_code
def yX8_senseAt : MethodName := ⟨RX8, "senseAt", "(I)LGlossaryLinker$Sense;"⟩
abbrev cX8_ruleAt : ByteArray := prog_10_method_4_code
def yX8_ruleAt : MethodName := ⟨RX8, "ruleAt", "(I)LGlossaryLinker$Rule;"⟩
abbrev cX8_isHead : ByteArray := prog_10_method_5_code
def yX8_isHead : MethodName := ⟨RX8, "isHead", "(J)Z"⟩
abbrev cX8_addSense : ByteArray := prog_10_method_6_code
def yX8_addSense : MethodName := ⟨RX8, "addSense", "(LGlossaryLinker$Sense;)V"⟩
abbrev cX8_addRule : ByteArray := prog_10_method_7_code
def yX8_addRule : MethodName := ⟨RX8, "addRule", "(LGlossaryLinker$Rule;)V"⟩
abbrev cX8_dropSense : ByteArray := prog_10_method_8_code
def yX8_dropSense : MethodName := ⟨RX8, "dropSense", "(I)V"⟩
abbrev cX8_dropRule : ByteArray := prog_10_method_9_code
def yX8_dropRule : MethodName := ⟨RX8, "dropRule", "(I)V"⟩
abbrev cX8_copyFrom : ByteArray := prog_10_method_10_code
def yX8_copyFrom : MethodName := ⟨RX8, "copyFrom", "(LGlossaryLinker$State;)V"⟩
def RX9 : String := "GlossaryLinker$Tape"
def TX9 : u_T := fun k => match k with
  | 0 => ("GlossaryLinker$Tape", "bytes", "[I", true)
  | 1 => ("GlossaryLinker$Tape", "length", "I", false)
  | 2 => ("GlossaryLinker$Tape", "place", "I", false)
  | 3 => ("GlossaryLinker$Tape", "wrong", "I", false)
  | 4 => ("GlossaryLinker$Tape", "cause", "I", false)
  | 5 => ("GlossaryLinker$Tape", "page", "LGlossaryLinker$Page;", true)
  | 6 => ("GlossaryLinker$Tape", "sense", "LGlossaryLinker$Sense;", true)
  | 7 => ("GlossaryLinker$Tape", "rule", "LGlossaryLinker$Rule;", true)
  | _ => ("GlossaryLinker$Tape", "word", "J", false)
def tyX9 : Nat → FieldType := fun k => match k with
  | 0 => .array .int
  | 1 => .int
  | 2 => .int
  | 3 => .int
  | 4 => .int
  | 5 => .object "GlossaryLinker$Page"
  | 6 => .object "GlossaryLinker$Sense"
  | 7 => .object "GlossaryLinker$Rule"
  | _ => .long
abbrev wsX90 : List Cond := u_ws RX9 TX9 9
theorem nmX9 : ∀ a, a < 9 → ∀ b, b < 9 → a ≠ b → (TX9 a).2.1 ≠ (TX9 b).2.1 := by decide +kernel
theorem tyX9_ok : ∀ k, k < 9 → parseFieldDescriptor (TX9 k).2.2.1 = some (tyX9 k) := by decide +kernel
abbrev cX9_init : ByteArray := prog_11_method_1_code
def yX9_init : MethodName := ⟨RX9, "<init>", "()V"⟩
abbrev cX9_append : ByteArray := prog_11_method_2_code
def yX9_append : MethodName := ⟨RX9, "append", "(I)V"⟩
abbrev cX9_readPage : ByteArray := prog_11_method_3_code
def yX9_readPage : MethodName := ⟨RX9, "readPage", "()Z"⟩
abbrev cX9_readSense : ByteArray := prog_11_method_4_code
def yX9_readSense : MethodName := ⟨RX9, "readSense", "()Z"⟩
abbrev cX9_readRule : ByteArray := prog_11_method_5_code
def yX9_readRule : MethodName := ⟨RX9, "readRule", "()Z"⟩
abbrev cX9_readWord : ByteArray := prog_11_method_6_code
def yX9_readWord : MethodName := ⟨RX9, "readWord", "()Z"⟩
abbrev cX9_start : ByteArray := prog_11_method_7_code
def yX9_start : MethodName := ⟨RX9, "start", "()V"⟩
abbrev cX9_finish : ByteArray := prog_11_method_8_code
def yX9_finish : MethodName := ⟨RX9, "finish", "()Z"⟩
abbrev cX9_fail : ByteArray := prog_11_method_9_code
def yX9_fail : MethodName := ⟨RX9, "fail", "(I)V"⟩
abbrev cX9_comingByte : ByteArray := prog_11_method_10_code
def yX9_comingByte : MethodName := ⟨RX9, "comingByte", "()I"⟩
abbrev cX9_comes : ByteArray := prog_11_method_11_code
def yX9_comes : MethodName := ⟨RX9, "comes", "(I)Z"⟩
abbrev cX9_atLetter : ByteArray := prog_11_method_12_code
def yX9_atLetter : MethodName := ⟨RX9, "atLetter", "()Z"⟩
abbrev cX9_demand : ByteArray := prog_11_method_13_code
def yX9_demand : MethodName := ⟨RX9, "demand", "(I)V"⟩
abbrev cX9_demandEnd : ByteArray := prog_11_method_14_code
def yX9_demandEnd : MethodName := ⟨RX9, "demandEnd", "()V"⟩
abbrev cX9_takeLetters : ByteArray := prog_11_method_15_code
def yX9_takeLetters : MethodName := ⟨RX9, "takeLetters", "(I)J"⟩
abbrev cX9_takeWord : ByteArray := prog_11_method_16_code
def yX9_takeWord : MethodName := ⟨RX9, "takeWord", "(Z)J"⟩
abbrev cX9_takeSections : ByteArray := prog_11_method_17_code
def yX9_takeSections : MethodName := ⟨RX9, "takeSections", "()V"⟩
abbrev cX9_takeHints : ByteArray := prog_11_method_18_code
def yX9_takeHints : MethodName := ⟨RX9, "takeHints", "()V"⟩
abbrev cX9_takeOwnPage : ByteArray := prog_11_method_19_code
def yX9_takeOwnPage : MethodName := ⟨RX9, "takeOwnPage", "()V"⟩
def RX10 : String := "GlossaryLinker$Words"
def TX10 : u_T := fun k => match k with
  | _ => ("", "", "", false)
def tyX10 : Nat → FieldType := fun k => match k with
  | _ => .int
abbrev wsX100 : List Cond := u_ws RX10 TX10 0
theorem nmX10 : ∀ a, a < 0 → ∀ b, b < 0 → a ≠ b → (TX10 a).2.1 ≠ (TX10 b).2.1 := by decide +kernel
theorem tyX10_ok : ∀ k, k < 0 → parseFieldDescriptor (TX10 k).2.2.1 = some (tyX10 k) := by decide +kernel
abbrev cX10_with : ByteArray := prog_12_method_2_code
def yX10_with : MethodName := ⟨RX10, "with", "(JI)J"⟩
abbrev cX10_lengthOf : ByteArray := prog_12_method_3_code
def yX10_lengthOf : MethodName := ⟨RX10, "lengthOf", "(J)I"⟩
abbrev cX10_letterAt : ByteArray := prog_12_method_4_code
def yX10_letterAt : MethodName := ⟨RX10, "letterAt", "(JII)I"⟩
def RX11 : String := "GlossaryLinker"
def TX11 : u_T := fun k => match k with
  | 0 => ("GlossaryLinker", "tape", "LGlossaryLinker$Tape;", true)
  | 1 => ("GlossaryLinker", "now", "LGlossaryLinker$State;", true)
  | 2 => ("GlossaryLinker", "snapshot", "LGlossaryLinker$State;", true)
  | 3 => ("GlossaryLinker", "snapshotTaken", "Z", false)
  | 4 => ("GlossaryLinker", "history", "LGlossaryLinker$History;", true)
  | 5 => ("GlossaryLinker", "linkings", "[LGlossaryLinker$Linking;", true)
  | _ => ("GlossaryLinker", "edit", "LGlossaryLinker$Edit;", true)
def tyX11 : Nat → FieldType := fun k => match k with
  | 0 => .object "GlossaryLinker$Tape"
  | 1 => .object "GlossaryLinker$State"
  | 2 => .object "GlossaryLinker$State"
  | 3 => .boolean
  | 4 => .object "GlossaryLinker$History"
  | 5 => .array (.object "GlossaryLinker$Linking")
  | _ => .object "GlossaryLinker$Edit"
abbrev wsX110 : List Cond := u_ws RX11 TX11 7
theorem nmX11 : ∀ a, a < 7 → ∀ b, b < 7 → a ≠ b → (TX11 a).2.1 ≠ (TX11 b).2.1 := by decide +kernel
theorem tyX11_ok : ∀ k, k < 7 → parseFieldDescriptor (TX11 k).2.2.1 = some (tyX11 k) := by decide +kernel
abbrev cX11_init : ByteArray := prog_1_method_1_code
def yX11_init : MethodName := ⟨RX11, "<init>", "()V"⟩
abbrev cX11_feed : ByteArray := prog_1_method_2_code
def yX11_feed : MethodName := ⟨RX11, "feed", "(IIIIII)I"⟩
abbrev cX11_page : ByteArray := prog_1_method_3_code
def yX11_page : MethodName := ⟨RX11, "page", "(I)I"⟩
abbrev cX11_sense : ByteArray := prog_1_method_4_code
def yX11_sense : MethodName := ⟨RX11, "sense", "()I"⟩
abbrev cX11_rule : ByteArray := prog_1_method_5_code
def yX11_rule : MethodName := ⟨RX11, "rule", "()I"⟩
abbrev cX11_removeSense : ByteArray := prog_1_method_6_code
def yX11_removeSense : MethodName := ⟨RX11, "removeSense", "(I)I"⟩
abbrev cX11_removeRule : ByteArray := prog_1_method_7_code
def yX11_removeRule : MethodName := ⟨RX11, "removeRule", "(I)I"⟩
abbrev cX11_parameter : ByteArray := prog_1_method_8_code
def yX11_parameter : MethodName := ⟨RX11, "parameter", "(II)I"⟩
abbrev cX11_budget : ByteArray := prog_1_method_9_code
def yX11_budget : MethodName := ⟨RX11, "budget", "(II)I"⟩
abbrev cX11_insert : ByteArray := prog_1_method_10_code
def yX11_insert : MethodName := ⟨RX11, "insert", "(II)I"⟩
abbrev cX11_replace : ByteArray := prog_1_method_11_code
def yX11_replace : MethodName := ⟨RX11, "replace", "(II)I"⟩
abbrev cX11_cut : ByteArray := prog_1_method_12_code
def yX11_cut : MethodName := ⟨RX11, "cut", "(II)I"⟩
abbrev cX11_edited : ByteArray := prog_1_method_13_code
def yX11_edited : MethodName := ⟨RX11, "edited", "(I)I"⟩
abbrev cX11_cause : ByteArray := prog_1_method_14_code
def yX11_cause : MethodName := ⟨RX11, "cause", "()I"⟩
abbrev cX11_word : ByteArray := prog_1_method_15_code
def yX11_word : MethodName := ⟨RX11, "word", "(III)I"⟩
abbrev cX11_told : ByteArray := prog_1_method_16_code
def yX11_told : MethodName := ⟨RX11, "told", "(III)I"⟩
abbrev cX11_base : ByteArray := prog_1_method_17_code
def yX11_base : MethodName := ⟨RX11, "base", "(IIII)I"⟩
abbrev cX11_ofSense : ByteArray := prog_1_method_18_code
def yX11_ofSense : MethodName := ⟨RX11, "ofSense", "(II)I"⟩
abbrev cX11_ofPage : ByteArray := prog_1_method_19_code
def yX11_ofPage : MethodName := ⟨RX11, "ofPage", "(II)I"⟩
abbrev cX11_link : ByteArray := prog_1_method_20_code
def yX11_link : MethodName := ⟨RX11, "link", "(II)I"⟩
abbrev cX11_without : ByteArray := prog_1_method_21_code
def yX11_without : MethodName := ⟨RX11, "without", "(II)I"⟩
abbrev cX11_again : ByteArray := prog_1_method_22_code
def yX11_again : MethodName := ⟨RX11, "again", "(I)I"⟩
abbrev cX11_back : ByteArray := prog_1_method_23_code
def yX11_back : MethodName := ⟨RX11, "back", "()I"⟩
abbrev cX11_image : ByteArray := prog_1_method_24_code
def yX11_image : MethodName := ⟨RX11, "image", "()I"⟩
abbrev cX11_undo : ByteArray := prog_1_method_25_code
def yX11_undo : MethodName := ⟨RX11, "undo", "()I"⟩
abbrev cX11_count : ByteArray := prog_1_method_26_code
def yX11_count : MethodName := ⟨RX11, "count", "(I)I"⟩
abbrev cX11_isByte : ByteArray := prog_1_method_27_code
def yX11_isByte : MethodName := ⟨RX11, "isByte", "(I)Z"⟩
abbrev cX11_letterOrLength : ByteArray := prog_1_method_28_code
def yX11_letterOrLength : MethodName := ⟨RX11, "letterOrLength", "(JI)I"⟩
abbrev cX11_startChange : ByteArray := prog_1_method_29_code
def yX11_startChange : MethodName := ⟨RX11, "startChange", "()V"⟩
abbrev cX11_startEdit : ByteArray := prog_1_method_30_code
def yX11_startEdit : MethodName := ⟨RX11, "startEdit", "(I)V"⟩
abbrev cX11_endEdit : ByteArray := prog_1_method_31_code
def yX11_endEdit : MethodName := ⟨RX11, "endEdit", "(IIII)V"⟩
abbrev cX11_forgetLinks : ByteArray := prog_1_method_32_code
def yX11_forgetLinks : MethodName := ⟨RX11, "forgetLinks", "()V"⟩
abbrev cX11_linkingOf : ByteArray := prog_1_method_33_code
def yX11_linkingOf : MethodName := ⟨RX11, "linkingOf", "(I)LGlossaryLinker$Linking;"⟩
abbrev cX11_linkedOnPage : ByteArray := prog_1_method_34_code
def yX11_linkedOnPage : MethodName := ⟨RX11, "linkedOnPage", "(II)I"⟩
abbrev cX11_linkedOnAllPages : ByteArray := prog_1_method_35_code
def yX11_linkedOnAllPages : MethodName := ⟨RX11, "linkedOnAllPages", "(I)I"⟩
abbrev cX11_meantOnAllPages : ByteArray := prog_1_method_36_code
def yX11_meantOnAllPages : MethodName := ⟨RX11, "meantOnAllPages", "(I)I"⟩
abbrev cX11_wordsOfAllPages : ByteArray := prog_1_method_37_code
def yX11_wordsOfAllPages : MethodName := ⟨RX11, "wordsOfAllPages", "()I"⟩
abbrev cX11_linksOfAllPages : ByteArray := prog_1_method_38_code
def yX11_linksOfAllPages : MethodName := ⟨RX11, "linksOfAllPages", "()I"⟩
abbrev cX11_sensesWithoutLinks : ByteArray := prog_1_method_39_code
def yX11_sensesWithoutLinks : MethodName := ⟨RX11, "sensesWithoutLinks", "()I"⟩
def RX12 : String := "GlossaryLinkerModel"
def TX12 : u_T := fun k => match k with
  | 0 => ("GlossaryLinkerModel", "all", "[I", true)
  | 1 => ("GlossaryLinkerModel", "changes", "I", false)
  | 2 => ("GlossaryLinkerModel", "isSaved", "Z", false)
  | 3 => ("GlossaryLinkerModel", "tape", "[I", true)
  | 4 => ("GlossaryLinkerModel", "taped", "I", false)
  | 5 => ("GlossaryLinkerModel", "at", "I", false)
  | 6 => ("GlossaryLinkerModel", "fault", "I", false)
  | 7 => ("GlossaryLinkerModel", "why", "I", false)
  | 8 => ("GlossaryLinkerModel", "latestCause", "I", false)
  | 9 => ("GlossaryLinkerModel", "read", "[I", true)
  | 10 => ("GlossaryLinkerModel", "readMany", "I", false)
  | 11 => ("GlossaryLinkerModel", "parts", "[I", true)
  | 12 => ("GlossaryLinkerModel", "baseMany", "[I", true)
  | 13 => ("GlossaryLinkerModel", "deep", "[I", true)
  | 14 => ("GlossaryLinkerModel", "longs", "[I", true)
  | 15 => ("GlossaryLinkerModel", "chars", "[I", true)
  | 16 => ("GlossaryLinkerModel", "once", "[I", true)
  | 17 => ("GlossaryLinkerModel", "twice", "[I", true)
  | 18 => ("GlossaryLinkerModel", "headBase", "[I", true)
  | 19 => ("GlossaryLinkerModel", "meant", "[I", true)
  | 20 => ("GlossaryLinkerModel", "scores", "[I", true)
  | 21 => ("GlossaryLinkerModel", "reasons", "[I", true)
  | 22 => ("GlossaryLinkerModel", "linked", "I", false)
  | 23 => ("GlossaryLinkerModel", "linksWere", "[I", true)
  | 24 => ("GlossaryLinkerModel", "hasEdited", "Z", false)
  | 25 => ("GlossaryLinkerModel", "came", "I", false)
  | 26 => ("GlossaryLinkerModel", "went", "I", false)
  | 27 => ("GlossaryLinkerModel", "firstCame", "I", false)
  | _ => ("GlossaryLinkerModel", "reasonsWere", "[I", true)
def tyX12 : Nat → FieldType := fun k => match k with
  | 0 => .array .int
  | 1 => .int
  | 2 => .boolean
  | 3 => .array .int
  | 4 => .int
  | 5 => .int
  | 6 => .int
  | 7 => .int
  | 8 => .int
  | 9 => .array .int
  | 10 => .int
  | 11 => .array .int
  | 12 => .array .int
  | 13 => .array .int
  | 14 => .array .int
  | 15 => .array .int
  | 16 => .array .int
  | 17 => .array .int
  | 18 => .array .int
  | 19 => .array .int
  | 20 => .array .int
  | 21 => .array .int
  | 22 => .int
  | 23 => .array .int
  | 24 => .boolean
  | 25 => .int
  | 26 => .int
  | 27 => .int
  | _ => .array .int
abbrev wsX120 : List Cond := u_ws RX12 TX12 29
theorem nmX12 : ∀ a, a < 29 → ∀ b, b < 29 → a ≠ b → (TX12 a).2.1 ≠ (TX12 b).2.1 := by decide +kernel
theorem tyX12_ok : ∀ k, k < 29 → parseFieldDescriptor (TX12 k).2.2.1 = some (tyX12 k) := by decide +kernel
abbrev cX12_init : ByteArray := prog_14_method_1_code
def yX12_init : MethodName := ⟨RX12, "<init>", "()V"⟩
abbrev cX12_in : ByteArray := prog_14_method_2_code
def yX12_in : MethodName := ⟨RX12, "in", "(III)Z"⟩
abbrev cX12_copies : ByteArray := prog_14_method_3_code
def yX12_copies : MethodName := ⟨RX12, "copies", "(II)V"⟩
abbrev cX12_keeps : ByteArray := prog_14_method_4_code
def yX12_keeps : MethodName := ⟨RX12, "keeps", "()V"⟩
abbrev cX12_isPage : ByteArray := prog_14_method_5_code
def yX12_isPage : MethodName := ⟨RX12, "isPage", "(I)Z"⟩
abbrev cX12_words : ByteArray := prog_14_method_6_code
def yX12_words : MethodName := ⟨RX12, "words", "(I)I"⟩
abbrev cX12_budgetOf : ByteArray := prog_14_method_7_code
def yX12_budgetOf : MethodName := ⟨RX12, "budgetOf", "(I)I"⟩
abbrev cX12_wordAt : ByteArray := prog_14_method_8_code
def yX12_wordAt : MethodName := ⟨RX12, "wordAt", "(II)I"⟩
abbrev cX12_isWord : ByteArray := prog_14_method_9_code
def yX12_isWord : MethodName := ⟨RX12, "isWord", "(II)Z"⟩
abbrev cX12_sectionOf : ByteArray := prog_14_method_10_code
def yX12_sectionOf : MethodName := ⟨RX12, "sectionOf", "(II)I"⟩
abbrev cX12_sections : ByteArray := prog_14_method_11_code
def yX12_sections : MethodName := ⟨RX12, "sections", "(I)I"⟩
abbrev cX12_rules : ByteArray := prog_14_method_12_code
def yX12_rules : MethodName := ⟨RX12, "rules", "()I"⟩
abbrev cX12_senses : ByteArray := prog_14_method_13_code
def yX12_senses : MethodName := ⟨RX12, "senses", "()I"⟩
abbrev cX12_ruleAt : ByteArray := prog_14_method_14_code
def yX12_ruleAt : MethodName := ⟨RX12, "ruleAt", "(I)I"⟩
abbrev cX12_senseAt : ByteArray := prog_14_method_15_code
def yX12_senseAt : MethodName := ⟨RX12, "senseAt", "(I)I"⟩
abbrev cX12_hints : ByteArray := prog_14_method_16_code
def yX12_hints : MethodName := ⟨RX12, "hints", "(I)I"⟩
abbrev cX12_hintAt : ByteArray := prog_14_method_17_code
def yX12_hintAt : MethodName := ⟨RX12, "hintAt", "(II)I"⟩
abbrev cX12_own : ByteArray := prog_14_method_18_code
def yX12_own : MethodName := ⟨RX12, "own", "(I)I"⟩
abbrev cX12_feed : ByteArray := prog_14_method_19_code
def yX12_feed : MethodName := ⟨RX12, "feed", "(IIIIII)I"⟩
abbrev cX12_here : ByteArray := prog_14_method_20_code
def yX12_here : MethodName := ⟨RX12, "here", "()I"⟩
abbrev cX12_isLetter : ByteArray := prog_14_method_21_code
def yX12_isLetter : MethodName := ⟨RX12, "isLetter", "()Z"⟩
abbrev cX12_fails : ByteArray := prog_14_method_22_code
def yX12_fails : MethodName := ⟨RX12, "fails", "(I)V"⟩
abbrev cX12_isNext : ByteArray := prog_14_method_23_code
def yX12_isNext : MethodName := ⟨RX12, "isNext", "(I)Z"⟩
abbrev cX12_wants : ByteArray := prog_14_method_24_code
def yX12_wants : MethodName := ⟨RX12, "wants", "(I)V"⟩
abbrev cX12_letters : ByteArray := prog_14_method_25_code
def yX12_letters : MethodName := ⟨RX12, "letters", "([III)I"⟩
abbrev cX12_word : ByteArray := prog_14_method_26_code
def yX12_word : MethodName := ⟨RX12, "word", "([II)V"⟩
abbrev cX12_begins : ByteArray := prog_14_method_27_code
def yX12_begins : MethodName := ⟨RX12, "begins", "()V"⟩
abbrev cX12_isWrong : ByteArray := prog_14_method_28_code
def yX12_isWrong : MethodName := ⟨RX12, "isWrong", "()Z"⟩
abbrev cX12_readsWord : ByteArray := prog_14_method_29_code
def yX12_readsWord : MethodName := ⟨RX12, "readsWord", "(I)V"⟩
abbrev cX12_readsPage : ByteArray := prog_14_method_30_code
def yX12_readsPage : MethodName := ⟨RX12, "readsPage", "()V"⟩
abbrev cX12_page : ByteArray := prog_14_method_31_code
def yX12_page : MethodName := ⟨RX12, "page", "(I)I"⟩
abbrev cX12_sense : ByteArray := prog_14_method_32_code
def yX12_sense : MethodName := ⟨RX12, "sense", "()I"⟩
abbrev cX12_rule : ByteArray := prog_14_method_33_code
def yX12_rule : MethodName := ⟨RX12, "rule", "()I"⟩
abbrev cX12_removeSense : ByteArray := prog_14_method_34_code
def yX12_removeSense : MethodName := ⟨RX12, "removeSense", "(I)I"⟩
abbrev cX12_removeRule : ByteArray := prog_14_method_35_code
def yX12_removeRule : MethodName := ⟨RX12, "removeRule", "(I)I"⟩
abbrev cX12_parameter : ByteArray := prog_14_method_36_code
def yX12_parameter : MethodName := ⟨RX12, "parameter", "(II)I"⟩
abbrev cX12_budget : ByteArray := prog_14_method_37_code
def yX12_budget : MethodName := ⟨RX12, "budget", "(II)I"⟩
abbrev cX12_applies : ByteArray := prog_14_method_38_code
def yX12_applies : MethodName := ⟨RX12, "applies", "(I[III[I)I"⟩
abbrev cX12_isBase : ByteArray := prog_14_method_39_code
def yX12_isBase : MethodName := ⟨RX12, "isBase", "(II[III)Z"⟩
abbrev cX12_lays : ByteArray := prog_14_method_40_code
def yX12_lays : MethodName := ⟨RX12, "lays", "(I[IIII)V"⟩
abbrev cX12_bases : ByteArray := prog_14_method_41_code
def yX12_bases : MethodName := ⟨RX12, "bases", "(II)V"⟩
abbrev cX12_isHead : ByteArray := prog_14_method_42_code
def yX12_isHead : MethodName := ⟨RX12, "isHead", "(III)Z"⟩
abbrev cX12_score : ByteArray := prog_14_method_43_code
def yX12_score : MethodName := ⟨RX12, "score", "(III)I"⟩
abbrev cX12_means : ByteArray := prog_14_method_44_code
def yX12_means : MethodName := ⟨RX12, "means", "(II)V"⟩
abbrev cX12_reason : ByteArray := prog_14_method_45_code
def yX12_reason : MethodName := ⟨RX12, "reason", "(IIII)I"⟩
abbrev cX12_links : ByteArray := prog_14_method_46_code
def yX12_links : MethodName := ⟨RX12, "links", "(III)V"⟩
abbrev cX12_links_ : ByteArray := prog_14_method_47_code
def yX12_links_ : MethodName := ⟨RX12, "links", "(I)V"⟩
abbrev cX12_linkOf : ByteArray := prog_14_method_48_code
def yX12_linkOf : MethodName := ⟨RX12, "linkOf", "(I)I"⟩
abbrev cX12_begins_ : ByteArray := prog_14_method_49_code
def yX12_begins_ : MethodName := ⟨RX12, "begins", "(I)I"⟩
abbrev cX12_tells : ByteArray := prog_14_method_50_code
def yX12_tells : MethodName := ⟨RX12, "tells", "(IIIZZ)V"⟩
abbrev cX12_isOneWord : ByteArray := prog_14_method_51_code
def yX12_isOneWord : MethodName := ⟨RX12, "isOneWord", "()Z"⟩
abbrev cX12_puts : ByteArray := prog_14_method_52_code
def yX12_puts : MethodName := ⟨RX12, "puts", "(III)V"⟩
abbrev cX12_insert : ByteArray := prog_14_method_53_code
def yX12_insert : MethodName := ⟨RX12, "insert", "(II)I"⟩
abbrev cX12_replace : ByteArray := prog_14_method_54_code
def yX12_replace : MethodName := ⟨RX12, "replace", "(II)I"⟩
abbrev cX12_cut : ByteArray := prog_14_method_55_code
def yX12_cut : MethodName := ⟨RX12, "cut", "(II)I"⟩
abbrev cX12_edited : ByteArray := prog_14_method_56_code
def yX12_edited : MethodName := ⟨RX12, "edited", "(I)I"⟩
abbrev cX12_cause : ByteArray := prog_14_method_57_code
def yX12_cause : MethodName := ⟨RX12, "cause", "()I"⟩
abbrev cX12_word_ : ByteArray := prog_14_method_58_code
def yX12_word_ : MethodName := ⟨RX12, "word", "(III)I"⟩
abbrev cX12_told : ByteArray := prog_14_method_59_code
def yX12_told : MethodName := ⟨RX12, "told", "(III)I"⟩
abbrev cX12_base : ByteArray := prog_14_method_60_code
def yX12_base : MethodName := ⟨RX12, "base", "(IIII)I"⟩
abbrev cX12_ofSense : ByteArray := prog_14_method_61_code
def yX12_ofSense : MethodName := ⟨RX12, "ofSense", "(II)I"⟩
abbrev cX12_reasonsOf : ByteArray := prog_14_method_62_code
def yX12_reasonsOf : MethodName := ⟨RX12, "reasonsOf", "(II)I"⟩
abbrev cX12_ofPage : ByteArray := prog_14_method_63_code
def yX12_ofPage : MethodName := ⟨RX12, "ofPage", "(II)I"⟩
abbrev cX12_linkAt : ByteArray := prog_14_method_64_code
def yX12_linkAt : MethodName := ⟨RX12, "linkAt", "(II)I"⟩
abbrev cX12_link : ByteArray := prog_14_method_65_code
def yX12_link : MethodName := ⟨RX12, "link", "(II)I"⟩
abbrev cX12_without : ByteArray := prog_14_method_66_code
def yX12_without : MethodName := ⟨RX12, "without", "(II)I"⟩
abbrev cX12_again : ByteArray := prog_14_method_67_code
def yX12_again : MethodName := ⟨RX12, "again", "(I)I"⟩
abbrev cX12_back : ByteArray := prog_14_method_68_code
def yX12_back : MethodName := ⟨RX12, "back", "()I"⟩
abbrev cX12_image : ByteArray := prog_14_method_69_code
def yX12_image : MethodName := ⟨RX12, "image", "()I"⟩
abbrev cX12_undo : ByteArray := prog_14_method_70_code
def yX12_undo : MethodName := ⟨RX12, "undo", "()I"⟩
abbrev cX12_count : ByteArray := prog_14_method_71_code
def yX12_count : MethodName := ⟨RX12, "count", "(I)I"⟩
def RJ9 : String := "java/lang/Math"
def TJ9 : u_T := fun k => match k with
  | _ => ("", "", "", false)
def RJ10 : String := "java/lang/System"
def TJ10 : u_T := fun k => match k with
  | _ => ("", "", "", false)
def RL : String := "GlossaryLinkerLaw"
abbrev cL_law : ByteArray := code
def yL_law : MethodName := ⟨RL, "law", "([I)Z"⟩
abbrev vwCl : List vw_C := [(RX0, TX0, 3), (RX1, TX1, 5), (RX2, TX2, 2), (RX3, TX3, 14), (RX4, TX4, 4), (RX5, TX5, 4), (RX6, TX6, 4), (RX7, TX7, 4), (RX8, TX8, 7), (RX9, TX9, 9), (RX11, TX11, 7), (RX12, TX12, 29)]
end
section
/-! A small machine of our own: every value is an Int with a kind (0 int, 1 long, 2 reference, 3 nothing); the heap is one function of address and place.
Address 0 is null: there the count of cells (place 0) and of slots (place 1) is kept. Address 1 is the script. Place -1 of an address is its kind, place -2 its length. -/
abbrev zTV : Type := Nat × Int
abbrev zC : Type := Int → Int → Int
abbrev zR : Type := Option (Int × zC)
abbrev zK : Type := Nat → List zTV → List zTV → zC → zR
abbrev zCall : Type := Nat → List Int → zC → zR
abbrev zIns : Type := zCall → List zTV → List zTV → zC → zK → zR
def zup (c : zC) (a k v : Int) : zC := fun b j => if b = a ∧ j = k then v else c b j
def zw (x : Int) : Int := Int.bmod x 4294967296
def zbnd (r : zR) (f : Int → zC → zR) : zR := match r with
  | some q => f q.1 q.2
  | none => none
def znth : List zTV → Nat → zTV
  | [], _ => (3, 0)
  | x :: _, 0 => x
  | _ :: r, n + 1 => znth r n
/-- a store into the locals: a long whose second half is hit is gone -/
def zset : List zTV → Nat → zTV → List zTV
  | [], _, _ => []
  | _ :: r, 0, v => v :: r
  | x :: r, 1, v => cond (Nat.beq x.1 1) (3, 0) x :: zset r 0 v
  | x :: r, n + 2, v => x :: zset r (n + 1) v
def zcat : List zTV → Nat
  | [] => 0
  | x :: r => cond (Nat.beq x.1 1) 2 1 + zcat r
def zpop : List Nat → List zTV → List Int → (List Int → List zTV → zR) → zR
  | [], st, as, k => cond (Nat.ble (zcat st) 8) (k as st) none
  | _ :: _, [], _, _ => none
  | t :: ts, x :: st, as, k => cond (Nat.beq t x.1) (zpop ts st (x.2 :: as) k) none
def zi_fail : zIns := fun _ _ _ _ _ => none
def zi_iconst (v : Int) (nx : Nat) : zIns := fun _ ls st c k => k nx ls ((0, v) :: st) c
def zi_lconst (v : Int) (nx : Nat) : zIns := fun _ ls st c k => k nx ls ((1, v) :: st) c
def zi_null (nx : Nat) : zIns := fun _ ls st c k => k nx ls ((2, 0) :: st) c
def zi_load (t i : Nat) (nx : Nat) : zIns := fun _ ls st c k => cond (Nat.beq (znth ls i).1 t) (k nx ls ((t, (znth ls i).2) :: st) c) none
def zi_store1 (t i : Nat) (nx : Nat) : zIns := fun _ ls st c k => match st with
  | x :: st => cond (Nat.beq x.1 t) (k nx (zset ls i (t, x.2)) st c) none
  | _ => none
def zi_lstore (i : Nat) (nx : Nat) : zIns := fun _ ls st c k => match st with
  | x :: st => cond (Nat.beq x.1 1) (k nx (zset (zset ls (i + 1) (3, 0)) i (1, x.2)) st c) none
  | _ => none
def zi_iinc (i : Nat) (d : Int) (nx : Nat) : zIns := fun _ ls st c k => cond (Nat.beq (znth ls i).1 0) (k nx (zset ls i (0, zw ((znth ls i).2 + d))) st c) none
/-- two ints to one -/
def zi_bin (f : Int → Int → Int) (nx : Nat) : zIns := fun _ ls st c k => match st with
  | y :: x :: st => cond (Nat.beq y.1 0) (cond (Nat.beq x.1 0) (k nx ls ((0, f x.2 y.2) :: st) c) none) none
  | _ => none
def zi_lbin (ty : Nat) (f : Int → Int → Int) (nx : Nat) : zIns := fun _ ls st c k => match st with
  | y :: x :: st => cond (Nat.beq y.1 ty) (cond (Nat.beq x.1 1) (k nx ls ((1, f x.2 y.2) :: st) c) none) none
  | _ => none
def zadd (x y : Int) : Int := zw (x + y)
def zsub (x y : Int) : Int := zw (x - y)
def zmul (x y : Int) : Int := zw (x * y)
def zishl (x y : Int) : Int := (Int32.ofInt x <<< (Int32.ofInt y &&& 31)).toInt
def zishr (x y : Int) : Int := (Int32.ofInt x >>> (Int32.ofInt y &&& 31)).toInt
def ziand (x y : Int) : Int := (Int32.ofInt x &&& Int32.ofInt y).toInt
def zior (x y : Int) : Int := (Int32.ofInt x ||| Int32.ofInt y).toInt
def zixor (x y : Int) : Int := (Int32.ofInt x ^^^ Int32.ofInt y).toInt
def zland (x y : Int) : Int := (Int64.ofInt x &&& Int64.ofInt y).toInt
def zlor (x y : Int) : Int := (Int64.ofInt x ||| Int64.ofInt y).toInt
def zlshl (x y : Int) : Int := (Int64.ofInt x <<< ((Int32.ofInt y).toInt64 &&& 63)).toInt
def zlushr (x y : Int) : Int := (((Int64.ofInt x).toUInt64 >>> ((Int32.ofInt y).toInt64.toUInt64 &&& Int64.toUInt64 63)).toInt64).toInt
def zl2i (x : Int) : Int := (Int64.ofInt x).toInt32.toInt
def zmax (x y : Int) : Int := if x < y then y else x
def zmin (x y : Int) : Int := if y < x then y else x
def zi_lcmp (nx : Nat) : zIns := fun _ ls st c k => match st with
  | y :: x :: st => cond (Nat.beq y.1 1) (cond (Nat.beq x.1 1) (k nx ls ((0, if y.2 < x.2 then 1 else if x.2 = y.2 then 0 else -1) :: st) c) none) none
  | _ => none
def zi_i2l (nx : Nat) : zIns := fun _ ls st c k => match st with
  | x :: st => cond (Nat.beq x.1 0) (k nx ls ((1, x.2) :: st) c) none
  | _ => none
def zi_l2i (nx : Nat) : zIns := fun _ ls st c k => match st with
  | x :: st => cond (Nat.beq x.1 1) (k nx ls ((0, zl2i x.2) :: st) c) none
  | _ => none
def zi_ifeq (t nx : Nat) : zIns := fun _ ls st c k => match st with
  | x :: st => cond (Nat.beq x.1 0) (if x.2 = 0 then k t ls st c else k nx ls st c) none
  | _ => none
def zi_iflt (t nx : Nat) : zIns := fun _ ls st c k => match st with
  | x :: st => cond (Nat.beq x.1 0) (if x.2 < 0 then k t ls st c else k nx ls st c) none
  | _ => none
def zi_ifle (t nx : Nat) : zIns := fun _ ls st c k => match st with
  | x :: st => cond (Nat.beq x.1 0) (if x.2 ≤ 0 then k t ls st c else k nx ls st c) none
  | _ => none
def zi_ceq (t nx : Nat) : zIns := fun _ ls st c k => match st with
  | y :: x :: st => cond (Nat.beq y.1 0) (cond (Nat.beq x.1 0) (if x.2 = y.2 then k t ls st c else k nx ls st c) none) none
  | _ => none
def zi_clt (t nx : Nat) : zIns := fun _ ls st c k => match st with
  | y :: x :: st => cond (Nat.beq y.1 0) (cond (Nat.beq x.1 0) (if x.2 < y.2 then k t ls st c else k nx ls st c) none) none
  | _ => none
def zi_cle (t nx : Nat) : zIns := fun _ ls st c k => match st with
  | y :: x :: st => cond (Nat.beq y.1 0) (cond (Nat.beq x.1 0) (if x.2 ≤ y.2 then k t ls st c else k nx ls st c) none) none
  | _ => none
def zi_ifnull (t nx : Nat) : zIns := fun _ ls st c k => match st with
  | x :: st => cond (Nat.beq x.1 2) (if x.2 = 0 then k t ls st c else k nx ls st c) none
  | _ => none
def zi_goto (t : Nat) : zIns := fun _ ls st c k => k t ls st c
def zsw (x : Int) (d : Nat) (k : Nat → zR) : List (Int × Nat) → zR
  | [] => k d
  | q :: r => if x = q.1 then k q.2 else zsw x d k r
def zi_switch (d : Nat) (qs : List (Int × Nat)) : zIns := fun _ ls st c k => match st with
  | x :: st => cond (Nat.beq x.1 0) (zsw x.2 d (fun t => k t ls st c) qs) none
  | _ => none
def zi_dup (nx : Nat) : zIns := fun _ ls st c k => match st with
  | x :: st => cond (Nat.beq x.1 1) none (k nx ls (x :: x :: st) c)
  | _ => none
def zi_dup2 (nx : Nat) : zIns := fun _ ls st c k => match st with
  | y :: x :: st => cond (Nat.beq y.1 1) none (cond (Nat.beq x.1 1) none (k nx ls (y :: x :: y :: x :: st) c))
  | _ => none
def zi_pop (nx : Nat) : zIns := fun _ ls st c k => match st with
  | x :: st => cond (Nat.beq x.1 1) none (k nx ls st c)
  | _ => none
/-- ci: the class's number, f: the field's place, ty: its kind -/
def zi_get (ci f : Int) (ty : Nat) (nx : Nat) : zIns := fun _ ls st c k => match st with
  | a :: st => cond (Nat.beq a.1 2) (if c a.2 (-1) = ci then k nx ls ((ty, c a.2 f) :: st) c else none) none
  | _ => none
def zi_put (ci f : Int) (ty : Nat) (nx : Nat) : zIns := fun _ ls st c k => match st with
  | v :: a :: st => cond (Nat.beq v.1 ty) (cond (Nat.beq a.1 2) (if c a.2 (-1) = ci then k nx ls st (zup c a.2 f v.2) else none) none) none
  | _ => none
def zi_putZ (ci f : Int) (nx : Nat) : zIns := fun _ ls st c k => match st with
  | v :: a :: st => cond (Nat.beq v.1 0) (cond (Nat.beq a.1 2) (if c a.2 (-1) = ci then (if v.2 = 0 ∨ v.2 = 1 then k nx ls st (zup c a.2 f v.2) else none) else none) none) none
  | _ => none
/-- kd: the array's kind, ty: its elements' -/
def zi_ald (kd : Int) (ty : Nat) (nx : Nat) : zIns := fun _ ls st c k => match st with
  | i :: a :: st => cond (Nat.beq i.1 0) (cond (Nat.beq a.1 2) (if c a.2 (-1) = kd ∧ 0 ≤ i.2 ∧ i.2 < c a.2 (-2) then k nx ls ((ty, c a.2 i.2) :: st) c else none) none) none
  | _ => none
def zi_ast (kd : Int) (ty : Nat) (nx : Nat) : zIns := fun _ ls st c k => match st with
  | v :: i :: a :: st => cond (Nat.beq v.1 ty) (cond (Nat.beq i.1 0) (cond (Nat.beq a.1 2) (if c a.2 (-1) = kd ∧ 0 ≤ i.2 ∧ i.2 < c a.2 (-2) then k nx ls st (zup c a.2 i.2 v.2) else none) none) none) none
  | _ => none
def zi_astZ (nx : Nat) : zIns := fun _ ls st c k => match st with
  | v :: i :: a :: st => cond (Nat.beq v.1 0) (cond (Nat.beq i.1 0) (cond (Nat.beq a.1 2) (if c a.2 (-1) = 102 ∧ 0 ≤ i.2 ∧ i.2 < c a.2 (-2) then (if v.2 = 0 ∨ v.2 = 1 then k nx ls st (zup c a.2 i.2 v.2) else none) else none) none) none) none
  | _ => none
/-- a reference to an object of class ci into an array of kind 109 + ci -/
def zi_astR (ci : Int) (nx : Nat) : zIns := fun _ ls st c k => match st with
  | v :: i :: a :: st => cond (Nat.beq v.1 2) (cond (Nat.beq i.1 0) (cond (Nat.beq a.1 2) (if c a.2 (-1) = 109 + ci ∧ 0 ≤ i.2 ∧ i.2 < c a.2 (-2) then (if c v.2 (-1) = ci then k nx ls st (zup c a.2 i.2 v.2) else none) else none) none) none) none
  | _ => none
def zi_alen (kd : Int) (nx : Nat) : zIns := fun _ ls st c k => match st with
  | a :: st => cond (Nat.beq a.1 2) (if c a.2 (-1) = kd then k nx ls ((0, c a.2 (-2)) :: st) c else none) none
  | _ => none
/-- a new cell of a kind, with n slots -/
def znew (c : zC) (kd n : Int) : zC := fun a j => if a = c 0 0 then (if j = -1 then kd else if j = -2 then n else 0) else if a = 0 ∧ j = 0 then c 0 0 + 1 else if a = 0 ∧ j = 1 then c 0 1 + n else c a j
def zi_new (ci n : Int) (nx : Nat) : zIns := fun _ ls st c k => k nx ls ((2, c 0 0) :: st) (znew c ci n)
def zi_newa (kd : Int) (nx : Nat) : zIns := fun _ ls st c k => match st with
  | n :: st => cond (Nat.beq n.1 0) (if 0 ≤ n.2 ∧ n.2 ≤ 20000 then k nx ls ((2, c 0 0) :: st) (znew c kd n.2) else none) none
  | _ => none
def zi_objinit (nx : Nat) : zIns := fun _ ls st c k => match st with
  | a :: st => cond (Nat.beq a.1 2) (cond (Nat.ble (zcat st) 8) (if a.2 = 0 then none else k nx ls st c) none) none
  | _ => none
def zi_minmax (f : Int → Int → Int) (nx : Nat) : zIns := fun _ ls st c k => match st with
  | y :: x :: st => cond (Nat.beq y.1 0) (cond (Nat.beq x.1 0) (cond (Nat.ble (zcat st) 8) (k nx ls ((0, f x.2 y.2) :: st) c) none) none) none
  | _ => none
def zcopy (c : zC) (s sp d dp n : Int) : zC := fun b j => if b = d ∧ dp ≤ j ∧ j < dp + n then c s (sp + (j - dp)) else c b j
def zi_copy (kd : Int) (nx : Nat) : zIns := fun _ ls st c k => match st with
  | n :: dp :: d :: sp :: s :: st => cond (Nat.beq n.1 0) (cond (Nat.beq dp.1 0) (cond (Nat.beq d.1 2) (cond (Nat.beq sp.1 0) (cond (Nat.beq s.1 2) (cond (Nat.ble (zcat st) 8)
      (if c s.2 (-1) = kd ∧ c d.2 (-1) = kd ∧ 0 ≤ n.2 ∧ 0 ≤ sp.2 ∧ 0 ≤ dp.2 ∧ sp.2 + n.2 ≤ c s.2 (-2) ∧ dp.2 + n.2 ≤ c d.2 (-2) then k nx ls st (zcopy c s.2 sp.2 d.2 dp.2 n.2) else none) none) none) none) none) none) none
  | _ => none
/-- a call of a static method: tg: its arguments' kinds, the last first; rt: its answer's kind, 3 for none -/
def zi_callS (mi : Nat) (tg : List Nat) (rt : Nat) (nx : Nat) : zIns := fun call ls st c k => zpop tg st [] (fun as r => zbnd (call mi as c) (fun v c' => k nx ls (cond (Nat.beq rt 3) r ((rt, v) :: r)) c'))
/-- a call on an object of class ci -/
def zi_callV (ci : Int) (mi : Nat) (tg : List Nat) (rt : Nat) (nx : Nat) : zIns := fun call ls st c k => zpop tg st [] (fun as r => match as with
  | a :: _ => if c a (-1) = ci then zbnd (call mi as c) (fun v c' => k nx ls (cond (Nat.beq rt 3) r ((rt, v) :: r)) c') else none
  | [] => none)
def zi_ret (t : Nat) : zIns := fun _ _ st c _ => match st with
  | [x] => cond (Nat.beq x.1 t) (some (x.2, c)) none
  | _ => none
def zi_zret : zIns := fun _ _ st c _ => match st with
  | [x] => cond (Nat.beq x.1 0) (if x.2 = 0 ∨ x.2 = 1 then some (x.2, c) else none) none
  | _ => none
def zi_vret : zIns := fun _ _ st c _ => match st with
  | [] => some (0, c)
  | _ => none
/-- at a cut the locals that are not read any more are forgotten -/
def zmask : List Bool → List zTV → List zTV
  | [], l => l
  | _ :: _, [] => []
  | b :: bs, x :: l => cond b x (3, 0) :: zmask bs l
def zcut (q : Option (List Bool)) (a : List Bool → zR) (b : zR) : zR := match q with
  | some m => a m
  | none => b
/-- from a place on to the next cut -/
def zseg (code : Nat → zIns) (cuts : Nat → Option (List Bool)) (call : zCall) (K : zK) : Nat → zK
  | 0 => fun _ _ _ _ => none
  | n + 1 => fun pc ls st c => code pc call ls st c (fun pc' ls' st' c' => zcut (cuts pc') (fun m => K pc' (zmask m ls') st' c') (zseg code cuts call K n pc' ls' st' c'))
def zex (code : Nat → zIns) (cuts : Nat → Option (List Bool)) (call : zCall) : Nat → zK
  | 0 => fun _ _ _ _ => none
  | n + 1 => zseg code cuts call (zex code cuts call n) 1000
def zent : List Nat → List Int → List zTV
  | t :: ts, x :: xs => cond (Nat.beq t 1) ((1, x) :: (3, 0) :: zent ts xs) ((t, x) :: zent ts xs)
  | _, _ => []
def zpad : Nat → List zTV → List zTV
  | 0, _ => []
  | n + 1, [] => (3, 0) :: zpad n []
  | n + 1, x :: l => x :: zpad n l
/-- what is known of a method: its code, its cuts, its arguments' kinds, its locals -/
abbrev zM : Type := (Nat → zIns) × (Nat → Option (List Bool)) × List Nat × Nat
def zrunM (q : zM) (call : zCall) (as : List Int) (c : zC) : zR := zex q.1 q.2.1 call 20000 0 (zpad q.2.2.2 (zent q.2.2.1 as)) [] c
end
section
/-! What ties the small machine to the real one: kinds, ranges, the picture of the heap. -/
def zWS : List Cond := lw_tbl.filter goodWord
theorem zWS_tbl : ∀ w ∈ zWS, w ∈ lw_tbl := fun _ h => (List.mem_filter.mp h).1
theorem zWS_of {w : Cond} (h : w ∈ lw_tbl) (g : goodWord w = true) : w ∈ zWS := List.mem_filter.mpr ⟨h, g⟩
theorem zWS_good {ws : List Cond} (h : ∀ w ∈ ws, w ∈ zWS) : GoodIn zWS ws := fun w hw => ⟨h w hw, good_of_word (List.mem_filter.mp (h w hw)).2⟩
def zin32 (x : Int) : Prop := -2147483648 ≤ x ∧ x < 2147483648
def zin64 (x : Int) : Prop := -9223372036854775808 ≤ x ∧ x < 9223372036854775808
theorem z32_to {x : Int} (h : zin32 x) : (Int32.ofInt x).toInt = x := by
  obtain ⟨h1, h2⟩ := h
  rw [Int32.toInt_ofInt]
  show Int.bmod x 4294967296 = x
  exact Int.bmod_eq_of_le (by omega) (by omega)
theorem z64_to {x : Int} (h : zin64 x) : (Int64.ofInt x).toInt = x := by
  obtain ⟨h1, h2⟩ := h
  rw [Int64.toInt_ofInt]
  show Int.bmod x 18446744073709551616 = x
  exact Int.bmod_eq_of_le (by omega) (by omega)
theorem z32_in (x : Int32) : zin32 x.toInt := ⟨Int32.minValue_le_toInt x, by have := Int32.toInt_lt x; omega⟩
theorem z64_in (x : Int64) : zin64 x.toInt := ⟨by have := Int64.le_toInt x; omega, by have := Int64.toInt_lt x; omega⟩
theorem z32_of (x : Int32) : Int32.ofInt x.toInt = x := Int32.ofInt_toInt x
theorem z64_of (x : Int64) : Int64.ofInt x.toInt = x := Int64.ofInt_toInt x
theorem z32_eq {x y : Int} (hx : zin32 x) (hy : zin32 y) : Int32.ofInt x = Int32.ofInt y ↔ x = y := by
  rw [← Int32.toInt_inj, z32_to hx, z32_to hy]
theorem z32_lt {x y : Int} (hx : zin32 x) (hy : zin32 y) : Int32.ofInt x < Int32.ofInt y ↔ x < y := by
  rw [Int32.lt_iff_toInt_lt, z32_to hx, z32_to hy]
theorem z32_le {x y : Int} (hx : zin32 x) (hy : zin32 y) : Int32.ofInt x ≤ Int32.ofInt y ↔ x ≤ y := by
  rw [Int32.le_iff_toInt_le, z32_to hx, z32_to hy]
theorem z64_eq {x y : Int} (hx : zin64 x) (hy : zin64 y) : Int64.ofInt x = Int64.ofInt y ↔ x = y := by
  rw [← Int64.toInt_inj, z64_to hx, z64_to hy]
theorem z64_lt {x y : Int} (hx : zin64 x) (hy : zin64 y) : Int64.ofInt x < Int64.ofInt y ↔ x < y := by
  rw [Int64.lt_iff_toInt_lt, z64_to hx, z64_to hy]
theorem zin32_0 : zin32 0 := ⟨by decide, by decide⟩
theorem z32_zero : Int32.ofInt 0 = 0 := rfl
theorem z32_if0 {x : Int} (hx : zin32 x) : Int32.ofInt x = 0 ↔ x = 0 := z32_eq hx zin32_0
theorem z32_lt0 {x : Int} (hx : zin32 x) : Int32.ofInt x < 0 ↔ x < 0 := z32_lt hx zin32_0
theorem z32_le0 {x : Int} (hx : zin32 x) : Int32.ofInt x ≤ 0 ↔ x ≤ 0 := z32_le hx zin32_0
theorem zw_in (x : Int) : zin32 (zw x) := by
  unfold zw zin32
  have h1 := Int.le_bmod (x := x) (m := 4294967296) (by decide)
  have h2 := Int.bmod_lt (x := x) (m := 4294967296) (by decide)
  omega
theorem zw_id {x : Int} (h : zin32 x) : zw x = x := by
  obtain ⟨h1, h2⟩ := h
  exact Int.bmod_eq_of_le (by omega) (by omega)
theorem z32_zw (x : Int) : Int32.ofInt (zw x) = Int32.ofInt x := by
  rw [← Int32.toInt_inj, z32_to (zw_in x), Int32.toInt_ofInt]
  rfl
theorem z32_add (x y : Int) : Int32.ofInt (zadd x y) = Int32.ofInt x + Int32.ofInt y := by
  unfold zadd; rw [z32_zw, Int32.ofInt_add]
theorem z32_sub (x y : Int) : Int32.ofInt (zsub x y) = Int32.ofInt x - Int32.ofInt y := by
  unfold zsub; rw [z32_zw, Int32.ofInt_sub]
theorem z32_mul (x y : Int) : Int32.ofInt (zmul x y) = Int32.ofInt x * Int32.ofInt y := by
  unfold zmul; rw [z32_zw, Int32.ofInt_mul]
theorem z32_clamp {x : Int} (hx : zin32 x) : (Int32.ofInt x).toNatClampNeg = x.toNat := by
  show (Int32.ofInt x).toInt.toNat = _
  rw [z32_to hx]
theorem z32_vin {x : Int} {n : Nat} (hx : zin32 x) (h0 : 0 ≤ x) (h1 : x < n) : vp_in (Int32.ofInt x) n := by
  unfold vp_in
  rw [z32_clamp hx, z32_lt0 hx]
  omega
theorem zc_of {a b : Nat} {X : zR} {r : Int × zC} (h : cond (Nat.beq a b) X none = some r) : a = b ∧ X = some r := by
  cases e : Nat.beq a b with
  | true => rw [e] at h; exact ⟨Nat.eq_of_beq_eq_true e, h⟩
  | false => rw [e] at h; cases h
theorem zc_no {a b : Nat} {X : zR} {r : Int × zC} (h : cond (Nat.beq a b) none X = some r) : a ≠ b ∧ X = some r := by
  cases e : Nat.beq a b with
  | true => rw [e] at h; cases h
  | false => rw [e] at h; exact ⟨Nat.ne_of_beq_eq_false e, h⟩
theorem zc_le {a b : Nat} {X : zR} {r : Int × zC} (h : cond (Nat.ble a b) X none = some r) : a ≤ b ∧ X = some r := by
  cases e : Nat.ble a b with
  | true => rw [e] at h; exact ⟨Nat.le_of_ble_eq_true e, h⟩
  | false => rw [e] at h; cases h
theorem zi_of {P : Prop} [Decidable P] {X : zR} {r : Int × zC} (h : (if P then X else none) = some r) : P ∧ X = some r := by
  by_cases hp : P
  · rw [if_pos hp] at h; exact ⟨hp, h⟩
  · rw [if_neg hp] at h; cases h
theorem zi_no {P : Prop} [Decidable P] {X : zR} {r : Int × zC} (h : (if P then none else X) = some r) : ¬ P ∧ X = some r := by
  by_cases hp : P
  · rw [if_pos hp] at h; cases h
  · rw [if_neg hp] at h; exact ⟨hp, h⟩
theorem zb_of {r : zR} {f : Int → zC → zR} {q : Int × zC} (h : zbnd r f = some q) : ∃ v c, r = some (v, c) ∧ f v c = some q := by
  cases r with
  | none => cases h
  | some x => exact ⟨x.1, x.2, rfl, h⟩
-- values
def zro (b b0 : Nat) (x : Int) : Nat := if x = 1 then b else b0 + (x - 2).toNat
def zrf (b b0 : Nat) (x : Int) : Option Nat := if x = 0 then none else some (zro b b0 x)
def zV (b b0 : Nat) (v : zTV) : Value := match v.1 with
  | 0 => .int (Int32.ofInt v.2)
  | 1 => .long (Int64.ofInt v.2)
  | _ => va_rf (zrf b b0 v.2)
theorem zro_2 {b b0 : Nat} {x : Int} (h : 2 ≤ x) : zro b b0 x = b0 + (x - 2).toNat := by
  unfold zro; rw [if_neg (by omega)]
theorem zV_cat {b b0 : Nat} (v : zTV) (h : v.1 ≠ 1) : (zV b b0 v).category = 1 := by
  obtain ⟨t, x⟩ := v
  match t, h with
  | 0, _ => rfl
  | n + 2, _ =>
    show (va_rf (zrf b b0 x)).category = 1
    cases zrf b b0 x <;> rfl
theorem zcat_eq {b b0 : Nat} (st : List zTV) : ((st.map (zV b b0)).map fun v => v.category).sum = zcat st := by
  induction st with
  | nil => rfl
  | cons x r ih =>
    show (zV b b0 x).category + ((r.map (zV b b0)).map fun v => v.category).sum = cond (Nat.beq x.1 1) 2 1 + zcat r
    rw [ih]
    obtain ⟨t, y⟩ := x
    by_cases h : t = 1
    · subst h; rfl
    · rw [zV_cat (t, y) h]
      have e : Nat.beq t 1 = false := by
        cases e : Nat.beq t 1 with
        | true => exact absurd (Nat.eq_of_beq_eq_true e) h
        | false => rfl
      show _ = cond (Nat.beq t 1) 2 1 + _
      rw [e]; rfl
def zokv (v : zTV) : Prop := (v.1 = 0 → zin32 v.2) ∧ (v.1 = 1 → zin64 v.2)
def zokl (l : List zTV) : Prop := ∀ v ∈ l, zokv v
theorem zokl_c {v : zTV} {l : List zTV} (h : zokv v) (hl : zokl l) : zokl (v :: l) := fun q hq => by
  rcases List.mem_cons.mp hq with rfl | hq
  · exact h
  · exact hl q hq
theorem zokl_h {v : zTV} {l : List zTV} (h : zokl (v :: l)) : zokv v := h v List.mem_cons_self
theorem zokl_t {v : zTV} {l : List zTV} (h : zokl (v :: l)) : zokl l := fun q hq => h q (List.mem_cons_of_mem _ hq)
theorem zok0 {x : Int} (h : zin32 x) : zokv (0, x) := ⟨fun _ => h, (fun h => nomatch h)⟩
theorem zok1 {x : Int} (h : zin64 x) : zokv (1, x) := ⟨(fun h => nomatch h), fun _ => h⟩
theorem zok2 {x : Int} : zokv (2, x) := ⟨(fun h => nomatch h), (fun h => nomatch h)⟩
theorem zok3 {x : Int} : zokv (3, x) := ⟨(fun h => nomatch h), (fun h => nomatch h)⟩
-- locals
theorem znth_ok {ls : List zTV} (h : zokl ls) (i : Nat) : zokv (znth ls i) := by
  induction ls generalizing i with
  | nil => exact zok3
  | cons x r ih =>
    cases i with
    | zero => exact zokl_h h
    | succ n => exact ih (zokl_t h) n
theorem zset_len (ls : List zTV) (i : Nat) (v : zTV) : (zset ls i v).length = ls.length := by
  induction ls generalizing i with
  | nil => rfl
  | cons x r ih =>
    match i with
    | 0 => rfl
    | 1 => show (zset r 0 v).length + 1 = _; rw [ih]; rfl
    | n + 2 => show (zset r (n + 1) v).length + 1 = _; rw [ih]; rfl
theorem zset_ok {ls : List zTV} {v : zTV} (h : zokl ls) (hv : zokv v) (i : Nat) : zokl (zset ls i v) := by
  induction ls generalizing i with
  | nil => exact h
  | cons x r ih =>
    match i with
    | 0 => exact zokl_c hv (zokl_t h)
    | 1 =>
      refine zokl_c ?_ (ih (zokl_t h) 0)
      cases Nat.beq x.1 1
      · exact zokl_h h
      · exact zok3
    | n + 2 => exact zokl_c (zokl_h h) (ih (zokl_t h) (n + 1))
theorem zset_nth (ls : List zTV) (i : Nat) (v : zTV) (j : Nat) : znth (zset ls i v) j = (if j = i then (if j < ls.length then v else (3, 0)) else if j + 1 = i ∧ (znth ls j).1 = 1 then (3, 0) else znth ls j) := by
  induction ls generalizing i j with
  | nil =>
    show ((3, 0) : zTV) = if j = i then (if j < 0 then v else (3, 0)) else if j + 1 = i ∧ (3 : Nat) = 1 then (3, 0) else (3, 0)
    split <;> simp
  | cons x r ih =>
    match i, j with
    | 0, 0 => simp [zset, znth]
    | 0, j + 1 => simp [zset, znth]
    | 1, 0 =>
      show cond (Nat.beq x.1 1) (3, 0) x = _
      by_cases h : x.1 = 1
      · simp [h, znth]
      · have e : Nat.beq x.1 1 = false := by
          cases e : Nat.beq x.1 1 with
          | true => exact absurd (Nat.eq_of_beq_eq_true e) h
          | false => rfl
        simp [h, znth, e]
    | 1, j + 1 =>
      show znth (zset r 0 v) j = _
      rw [ih]
      simp [znth]
    | n + 2, 0 => simp [zset, znth]
    | n + 2, j + 1 =>
      show znth (zset r (n + 1) v) j = _
      rw [ih]
      simp [znth]
def zlv (V : zTV → Value) : Nat → List zTV → List (Nat × Value)
  | _, [] => []
  | i, x :: r => cond (Nat.beq x.1 3) (zlv V (i + 1) r) ((i, V x) :: zlv V (i + 1) r)
theorem zlv_mem {V : zTV → Value} {ls : List zTV} {i : Nat} {q : Nat × Value} : q ∈ zlv V i ls ↔ ∃ j, j < ls.length ∧ (znth ls j).1 ≠ 3 ∧ q = (i + j, V (znth ls j)) := by
  induction ls generalizing i with
  | nil => exact ⟨(fun h => by cases h), (fun ⟨j, h, _⟩ => absurd h (Nat.not_lt_zero j))⟩
  | cons x r ih =>
    have hr : q ∈ zlv V (i + 1) r ↔ ∃ j, j < (x :: r).length ∧ j ≠ 0 ∧ (znth (x :: r) j).1 ≠ 3 ∧ q = (i + j, V (znth (x :: r) j)) := by
      rw [ih]
      constructor
      · rintro ⟨j, h1, h2, h3⟩
        exact ⟨j + 1, Nat.succ_lt_succ h1, by omega, h2, by rw [h3, show i + 1 + j = i + (j + 1) by omega]; rfl⟩
      · rintro ⟨j, h1, h0, h2, h3⟩
        match j, h0 with
        | j + 1, _ => exact ⟨j, Nat.lt_of_succ_lt_succ h1, h2, by rw [h3, show i + 1 + j = i + (j + 1) by omega]; rfl⟩
    by_cases h : x.1 = 3
    · have e : zlv V i (x :: r) = zlv V (i + 1) r := by
        show cond (Nat.beq x.1 3) _ _ = _
        rw [h]; rfl
      rw [e, hr]
      constructor
      · rintro ⟨j, h1, -, h2, h3⟩; exact ⟨j, h1, h2, h3⟩
      · rintro ⟨j, h1, h2, h3⟩
        refine ⟨j, h1, ?_, h2, h3⟩
        rintro rfl
        exact h2 h
    · have e : zlv V i (x :: r) = (i, V x) :: zlv V (i + 1) r := by
        show cond (Nat.beq x.1 3) _ _ = _
        cases e : Nat.beq x.1 3 with
        | true => exact absurd (Nat.eq_of_beq_eq_true e) h
        | false => rfl
      rw [e, List.mem_cons, hr]
      constructor
      · rintro (h1 | ⟨j, h1, -, h2, h3⟩)
        · exact ⟨0, by simp, h, h1⟩
        · exact ⟨j, h1, h2, h3⟩
      · rintro ⟨j, h1, h2, h3⟩
        by_cases h0 : j = 0
        · subst h0; exact Or.inl h3
        · exact Or.inr ⟨j, h1, h0, h2, h3⟩
theorem znth_lt {ls : List zTV} {i : Nat} (h : (znth ls i).1 ≠ 3) : i < ls.length := by
  induction ls generalizing i with
  | nil => exact absurd rfl h
  | cons x r ih =>
    cases i with
    | zero => simp
    | succ n => exact Nat.succ_lt_succ (ih h)
theorem zl_at {V : zTV → Value} {lsR : Array Slot} {nL : Nat} {ls : List zTV} (h : lv_has lsR nL (zlv V 0 ls)) {i : Nat} (hi : (znth ls i).1 ≠ 3) : lsR[i]? = some (.val (V (znth ls i))) :=
  h.2.2 (i, V (znth ls i)) (zlv_mem.mpr ⟨i, znth_lt hi, hi, by simp⟩)
theorem zl_in {V : zTV → Value} {ls : List zTV} {i : Nat} (hi : (znth ls i).1 ≠ 3) : ∃ k : Nat, (zlv V 0 ls)[k]? = some (i, V (znth ls i)) :=
  List.getElem?_of_mem (zlv_mem.mpr ⟨i, znth_lt hi, hi, by simp⟩)
theorem zl_sub {lsR : Array Slot} {nL : Nat} {l l' : List (Nat × Value)} (h : lv_has lsR nL l) (hs : ∀ q ∈ l', q ∈ l) : lv_has lsR nL l' := ⟨h.1, h.2.1, fun q hq => h.2.2 q (hs q hq)⟩
theorem zl_set1 {b b0 : Nat} {ls : List zTV} {i : Nat} {v : zTV} {w : Value} (hw : zV b b0 v = w) (hi : i < ls.length) : ∀ q ∈ zlv (zV b b0) 0 (zset ls i v), q ∈ (i, w) :: (zlv (zV b b0) 0 ls).filter (fun q => !(q.1 == i) && !(q.1 + 1 == i && q.2.category == 2)) := by
  intro q hq
  obtain ⟨j, h1, h2, h3⟩ := zlv_mem.mp hq
  rw [zset_len] at h1
  rw [zset_nth] at h2 h3
  by_cases e : j = i
  · subst e
    rw [if_pos rfl, if_pos h1, hw] at h3
    rw [h3]
    simp
  · rw [if_neg e] at h2 h3
    by_cases e2 : j + 1 = i ∧ (znth ls j).1 = 1
    · rw [if_pos e2] at h2; exact absurd rfl h2
    · rw [if_neg e2] at h2 h3
      refine List.mem_cons_of_mem _ (List.mem_filter.mpr ⟨zlv_mem.mpr ⟨j, h1, h2, h3⟩, ?_⟩)
      rw [h3]
      simp only [Nat.zero_add, Bool.and_eq_true, Bool.not_eq_true', beq_eq_false_iff_ne, Bool.and_eq_false_iff]
      refine ⟨e, ?_⟩
      by_cases e3 : j + 1 = i
      · refine Or.inr ?_
        rw [zV_cat _ (fun h => e2 ⟨e3, h⟩)]
        decide
      · exact Or.inl e3
theorem zl_set2 {b b0 : Nat} {ls : List zTV} {i : Nat} {x : Int} (hi : i + 1 < ls.length) : ∀ q ∈ zlv (zV b b0) 0 (zset (zset ls (i + 1) (3, 0)) i (1, x)), q ∈ (i, Value.long (Int64.ofInt x)) :: (zlv (zV b b0) 0 ls).filter (fun q => !(q.1 == i) && (!(q.1 == i + 1) && !(q.1 + 1 == i && q.2.category == 2))) := by
  intro q hq
  obtain ⟨j, h1, h2, h3⟩ := zlv_mem.mp hq
  rw [zset_len, zset_len] at h1
  rw [zset_nth, zset_len] at h2 h3
  by_cases e : j = i
  · subst e
    rw [if_pos rfl, if_pos h1] at h3
    rw [h3]
    simp [zV]
  · rw [if_neg e] at h2 h3
    rw [zset_nth] at h2 h3
    by_cases e1 : j = i + 1
    · subst e1
      rw [if_pos rfl, if_pos h1] at h2
      simp at h2
    · rw [if_neg e1] at h2 h3
      rw [if_neg (by omega : ¬ (j + 1 = i + 1 ∧ (znth ls j).1 = 1))] at h2 h3
      by_cases e2 : j + 1 = i ∧ (znth ls j).1 = 1
      · rw [if_pos e2] at h2; exact absurd rfl h2
      · rw [if_neg e2] at h2 h3
        refine List.mem_cons_of_mem _ (List.mem_filter.mpr ⟨zlv_mem.mpr ⟨j, h1, h2, h3⟩, ?_⟩)
        rw [h3]
        simp only [Nat.zero_add, Bool.and_eq_true, Bool.not_eq_true', beq_eq_false_iff_ne, Bool.and_eq_false_iff]
        refine ⟨e, e1, ?_⟩
        by_cases e3 : j + 1 = i
        · refine Or.inr ?_
          rw [zV_cat _ (fun h => e2 ⟨e3, h⟩)]
          decide
        · exact Or.inl e3
-- a method's first locals
theorem zent_mem {V : zTV → Value} {ts : List Nat} {xs : List Int} (hc1 : ∀ x, (V (1, x)).category = 2) (hc : ∀ t x, t ≠ 1 → (V (t, x)).category = 1) (n i : Nat) : ∀ q ∈ zlv V i (zpad n (zent ts xs)), q ∈ lv_args i ((List.zip ts xs).map V) := by
  induction ts generalizing xs n i with
  | nil =>
    intro q hq
    have : ∀ n i, zlv V i (zpad n []) = [] := by
      intro n
      induction n with
      | zero => intro i; rfl
      | succ n ih => intro i; exact ih (i + 1)
    rw [show zent [] xs = [] by cases xs <;> rfl, this] at hq
    cases hq
  | cons t ts ih =>
    cases xs with
    | nil =>
      intro q hq
      have : ∀ n i, zlv V i (zpad n []) = [] := by
        intro n
        induction n with
        | zero => intro i; rfl
        | succ n ih => intro i; exact ih (i + 1)
      rw [show zent (t :: ts) [] = [] by rfl, this] at hq
      cases hq
    | cons x xs =>
      intro q hq
      show q ∈ (i, V (t, x)) :: lv_args (if (V (t, x)).category = 2 then i + 2 else i + 1) ((List.zip ts xs).map V)
      by_cases h : t = 1
      · subst h
        rw [show zent (1 :: ts) (x :: xs) = (1, x) :: (3, 0) :: zent ts xs from rfl] at hq
        rw [hc1, if_pos rfl]
        match n with
        | 0 => cases hq
        | 1 =>
          rcases List.mem_cons.mp hq with rfl | hq
          · exact List.mem_cons_self
          · cases hq
        | n + 2 =>
          rcases List.mem_cons.mp hq with rfl | hq
          · exact List.mem_cons_self
          · exact List.mem_cons_of_mem _ (ih n (i + 2) q hq)
      · have e : Nat.beq t 1 = false := by
          cases e : Nat.beq t 1 with
          | true => exact absurd (Nat.eq_of_beq_eq_true e) h
          | false => rfl
        rw [show zent (t :: ts) (x :: xs) = (t, x) :: zent ts xs by show cond (Nat.beq t 1) _ _ = _; rw [e]; rfl] at hq
        rw [hc t x h, if_neg (by decide)]
        match n with
        | 0 => cases hq
        | n + 1 =>
          have hq : q ∈ cond (Nat.beq t 3) (zlv V (i + 1) (zpad n (zent ts xs))) ((i, V (t, x)) :: zlv V (i + 1) (zpad n (zent ts xs))) := hq
          cases e3 : Nat.beq t 3 with
          | true => rw [e3] at hq; exact List.mem_cons_of_mem _ (ih n (i + 1) q hq)
          | false =>
            rw [e3] at hq
            rcases List.mem_cons.mp hq with rfl | hq
            · exact List.mem_cons_self
            · exact List.mem_cons_of_mem _ (ih n (i + 1) q hq)
theorem zpad_len (n : Nat) (l : List zTV) : (zpad n l).length = n := by
  induction n generalizing l with
  | zero => rfl
  | succ n ih => cases l <;> (show _ + 1 = _; rw [ih])
theorem zpad_ok {n : Nat} {l : List zTV} (h : zokl l) : zokl (zpad n l) := by
  induction n generalizing l with
  | zero => exact fun q hq => by cases hq
  | succ n ih =>
    cases l with
    | nil => exact zokl_c zok3 (ih h)
    | cons x l => exact zokl_c (zokl_h h) (ih (zokl_t h))
theorem zent_ok {ts : List Nat} {xs : List Int} (h : zokl (List.zip ts xs)) : zokl (zent ts xs) := by
  induction ts generalizing xs with
  | nil => cases xs <;> exact fun q hq => by cases hq
  | cons t ts ih =>
    cases xs with
    | nil => exact fun q hq => by cases hq
    | cons x xs =>
      show zokl (cond (Nat.beq t 1) ((1, x) :: (3, 0) :: zent ts xs) ((t, x) :: zent ts xs))
      have h1 : zokv (t, x) := zokl_h h
      have h2 := ih (zokl_t h)
      cases e : Nat.beq t 1 with
      | true =>
        have := Nat.eq_of_beq_eq_true e
        subst this
        exact zokl_c h1 (zokl_c zok3 h2)
      | false => exact zokl_c h1 h2
theorem zpop_of {ts : List Nat} {st : List zTV} {acc : List Int} {k : List Int → List zTV → zR} {r : Int × zC} (h : zpop ts st acc k = some r) :
    ∃ (as : List Int) (rest : List zTV), as.length = ts.length ∧ st = List.zip ts as ++ rest ∧ zcat rest ≤ 8 ∧ k (as.reverse ++ acc) rest = some r := by
  induction ts generalizing st acc with
  | nil =>
    have h : cond (Nat.ble (zcat st) 8) (k acc st) none = some r := by cases st <;> exact h
    obtain ⟨h1, h2⟩ := zc_le h
    exact ⟨[], st, rfl, rfl, h1, h2⟩
  | cons t ts ih =>
    cases st with
    | nil => cases h
    | cons x st =>
      obtain ⟨h1, h2⟩ := zc_of (show cond (Nat.beq t x.1) (zpop ts st (x.2 :: acc) k) none = some r from h)
      obtain ⟨as, rest, e1, e2, e3, e4⟩ := ih h2
      refine ⟨x.2 :: as, rest, by simp [e1], ?_, e3, ?_⟩
      · rw [e2, h1]; rfl
      · rw [List.reverse_cons, List.append_assoc]; exact e4
theorem zmask_len (m : List Bool) (l : List zTV) : (zmask m l).length = l.length := by
  induction m generalizing l with
  | nil => rfl
  | cons b m ih => cases l with
    | nil => rfl
    | cons x l => show (zmask m l).length + 1 = _; rw [ih]; rfl
theorem zmask_ok {m : List Bool} {l : List zTV} (h : zokl l) : zokl (zmask m l) := by
  induction m generalizing l with
  | nil => exact h
  | cons b m ih => cases l with
    | nil => exact h
    | cons x l =>
      refine zokl_c ?_ (ih (zokl_t h))
      cases b
      · exact zok3
      · exact zokl_h h
theorem zmask_nth (m : List Bool) (l : List zTV) (j : Nat) : znth (zmask m l) j = znth l j ∨ znth (zmask m l) j = (3, 0) := by
  induction m generalizing l j with
  | nil => exact Or.inl rfl
  | cons b m ih => cases l with
    | nil => exact Or.inl rfl
    | cons x l => cases j with
      | zero => cases b
                · exact Or.inr rfl
                · exact Or.inl rfl
      | succ j => exact ih l j
theorem zmask_lv {V : zTV → Value} {m : List Bool} {l : List zTV} : ∀ q ∈ zlv V 0 (zmask m l), q ∈ zlv V 0 l := by
  intro q hq
  obtain ⟨j, h1, h2, h3⟩ := zlv_mem.mp hq
  rw [zmask_len] at h1
  rcases zmask_nth m l j with e | e
  · rw [e] at h2 h3; exact zlv_mem.mpr ⟨j, h1, h2, h3⟩
  · rw [e] at h2; exact absurd rfl h2
end
section
/-! The picture of the heap: each cell of the small machine's heap is a cell of the real one, in the order in which they are made. -/
/-- the kinds of the fields of class number ci (its place in vwCl) -/
def zFT : Nat → List Nat
  | 0 => [2, 2, 0]
  | 1 => [2, 2, 0, 0, 0]
  | 2 => [2, 0]
  | 3 => [2, 2, 2, 2, 2, 2, 2, 2, 2, 2, 0, 0, 0, 0]
  | 4 => [2, 2, 0, 0]
  | 5 => [0, 0, 0, 0]
  | 6 => [1, 1, 0, 0]
  | 7 => [1, 2, 0, 0]
  | 8 => [2, 2, 2, 0, 0, 0, 0]
  | 9 => [2, 0, 0, 0, 0, 2, 2, 2, 1]
  | 10 => [2, 2, 2, 0, 2, 2, 2]
  | 11 => [2, 0, 0, 2, 0, 0, 0, 0, 0, 2, 0, 2, 2, 2, 2, 2, 2, 2, 2, 2, 2, 2, 0, 2, 0, 0, 0, 0, 2]
  | _ => []
def ztg : FieldType → Nat
  | .long => 1
  | .object _ | .array _ => 2
  | _ => 0
def zfl (V : zTV → Value) (g : Nat → Int) : Nat → List Nat → List Value
  | _, [] => []
  | k, t :: ts => V (t, g k) :: zfl V g (k + 1) ts
theorem zfl_get {V : zTV → Value} {g : Nat → Int} {ts : List Nat} {i k : Nat} : (zfl V g i ts)[k]? = (ts[k]?).map (fun t => V (t, g (i + k))) := by
  induction ts generalizing i k with
  | nil => rfl
  | cons t ts ih =>
    cases k with
    | zero => rfl
    | succ k =>
      show (zfl V g (i + 1) ts)[k]? = (ts[k]?).map _
      rw [ih, show i + 1 + k = i + (k + 1) by omega]
theorem zfl_len {V : zTV → Value} {g : Nat → Int} {ts : List Nat} {i : Nat} : (zfl V g i ts).length = ts.length := by
  induction ts generalizing i with
  | nil => rfl
  | cons t ts ih => show _ + 1 = _; rw [ih]; rfl
theorem zfl_set {V : zTV → Value} {g g' : Nat → Int} {ts : List Nat} {k : Nat} {v : Value} (hg : ∀ j, j ≠ k → g' j = g j) (hv : ∀ t, ts[k]? = some t → V (t, g' k) = v) : (zfl V g 0 ts).set k v = zfl V g' 0 ts := by
  apply List.ext_getElem?
  intro j
  rw [List.getElem?_set, zfl_get, zfl_get, zfl_len]
  by_cases h : k = j
  · subst h
    rw [if_pos rfl]
    by_cases h2 : k < ts.length
    · rw [if_pos h2, List.getElem?_eq_getElem h2]
      simp only [Nat.zero_add, Option.map_some]
      rw [hv _ (List.getElem?_eq_getElem h2)]
    · rw [if_neg h2, List.getElem?_eq_none (by omega)]
      rfl
  · rw [if_neg h, Nat.zero_add, hg j (fun e => h e.symm)]
/-- what is known of a valid kind -/
def zkd (k : Int) : Prop := (1 ≤ k ∧ k ≤ 12) ∨ k = 100 ∨ k = 101 ∨ k = 102 ∨ (110 ≤ k ∧ k ≤ 121)
/-- what a place of a cell of kind k may hold -/
def zsl (k j x : Int) : Prop := 0 ≤ j → ((k = 100 ∨ k = 102) → zin32 x) ∧ (k = 101 → zin64 x) ∧ (1 ≤ k → k ≤ 12 → ((zFT (k - 1).toNat)[j.toNat]? = some 0 → zin32 x) ∧ ((zFT (k - 1).toNat)[j.toNat]? = some 1 → zin64 x))
theorem zsl_0 (k j : Int) : zsl k j 0 := fun _ => ⟨fun _ => zin32_0, fun _ => ⟨by decide, by decide⟩, fun _ _ => ⟨fun _ => zin32_0, fun _ => ⟨by decide, by decide⟩⟩⟩
def zwf (L : Nat) (xs : Nat → Int32) (c : zC) : Prop := 2 ≤ c 0 0 ∧ 0 ≤ c 0 1 ∧ (∀ a, (c 0 0 ≤ a ∨ a < 0) → ∀ j, c a j = 0) ∧ c 0 (-1) = 0 ∧ c 1 (-1) = 99 ∧ (∀ a, 2 ≤ a → a < c 0 0 → zkd (c a (-1))) ∧ (∀ a, 2 ≤ a → 0 ≤ c a (-2) ∧ c a (-2) ≤ 20000) ∧ (∀ a j, 2 ≤ a → zsl (c a (-1)) j (c a j)) ∧
  c 1 (-2) = (L : Int) ∧ L ≤ 3584 ∧ (∀ j : Nat, j < L → c 1 (j : Int) = (xs j).toInt)
theorem zwf_a {L : Nat} {xs : Nat → Int32} {c : zC} (h : zwf L xs c) {a : Int} (ha : zkd (c a (-1))) : 2 ≤ a ∧ a < c 0 0 := by
  obtain ⟨h1, -, h2, h3, h4, -⟩ := h
  unfold zkd at ha
  have n0 : a ≠ 0 := by rintro rfl; omega
  have n1 : a ≠ 1 := by rintro rfl; omega
  by_cases hn : c 0 0 ≤ a ∨ a < 0
  · have := h2 a hn (-1); omega
  · omega
theorem zup_o {c : zC} {a k v b j : Int} (h : b ≠ a ∨ j ≠ k) : zup c a k v b j = c b j := by
  unfold zup; rw [if_neg (by omega)]
theorem zup_s {c : zC} {a k v : Int} : zup c a k v a k = v := by
  unfold zup; rw [if_pos ⟨rfl, rfl⟩]
theorem zwf_up {L : Nat} {xs : Nat → Int32} {c : zC} (h : zwf L xs c) {a k v : Int} (ha : zkd (c a (-1))) (hk : 0 ≤ k) (hv : zsl (c a (-1)) k v) : zwf L xs (zup c a k v) := by
  obtain ⟨a1, a2⟩ := zwf_a h ha
  obtain ⟨h0, h1, h2, h3, h4, h5, h6, h7, h8, h9, h10⟩ := h
  have e0 : ∀ j, zup c a k v 0 j = c 0 j := fun j => zup_o (Or.inl (by omega))
  have e1 : ∀ j, zup c a k v 1 j = c 1 j := fun j => zup_o (Or.inl (by omega))
  have em : ∀ b j, j < 0 → zup c a k v b j = c b j := fun b j hj => zup_o (Or.inr (by omega))
  refine ⟨by rw [e0]; exact h0, by rw [e0]; exact h1, fun b hb j => ?_, by rw [e0]; exact h3, by rw [e1]; exact h4, fun b hb1 hb2 => ?_, fun b hb => ?_, fun b j hb => ?_, by rw [e1]; exact h8, h9, fun j hj => by rw [e1]; exact h10 j hj⟩
  · rw [e0] at hb
    rw [zup_o (Or.inl (by omega))]
    exact h2 b hb j
  · rw [e0] at hb2
    rw [em _ _ (by decide)]
    exact h5 b hb1 hb2
  · rw [em _ _ (by decide)]
    exact h6 b hb
  · rw [em b (-1) (by decide)]
    by_cases e : b = a ∧ j = k
    · obtain ⟨rfl, rfl⟩ := e
      rw [zup_s]; exact hv
    · rw [zup_o (by omega)]
      exact h7 b j hb
theorem zwf_new {L : Nat} {xs : Nat → Int32} {c : zC} (h : zwf L xs c) {kd n : Int} (hk : zkd kd) (hn : 0 ≤ n) (hn2 : n ≤ 20000) : zwf L xs (znew c kd n) ∧ znew c kd n 0 0 = c 0 0 + 1 ∧ znew c kd n 0 1 = c 0 1 + n ∧ (∀ b, 1 ≤ b → b < c 0 0 → znew c kd n b = c b) := by
  obtain ⟨h0, h1, h2, h3, h4, h5, h6, h7, h8, h9, h10⟩ := h
  have e00 : znew c kd n 0 0 = c 0 0 + 1 := by unfold znew; rw [if_neg (by omega), if_pos ⟨rfl, rfl⟩]
  have e01 : znew c kd n 0 1 = c 0 1 + n := by unfold znew; rw [if_neg (by omega), if_neg (by omega), if_pos ⟨rfl, rfl⟩]
  have eb : ∀ b, b ≠ 0 → b ≠ c 0 0 → znew c kd n b = c b := fun b hb1 hb2 => by
    funext j; unfold znew; rw [if_neg hb2, if_neg (by omega), if_neg (by omega)]
  have en : ∀ j, znew c kd n (c 0 0) j = if j = -1 then kd else if j = -2 then n else 0 := fun j => by unfold znew; rw [if_pos rfl]
  refine ⟨⟨by omega, by omega, fun b hb j => ?_, ?_, ?_, fun b hb1 hb2 => ?_, fun b hb => ?_, fun b j hb => ?_, ?_, h9, fun j hj => ?_⟩, e00, e01, fun b b1 b2 => eb b (by omega) (by omega)⟩
  · rw [e00] at hb
    rw [eb b (by omega) (by omega)]
    exact h2 b (by omega) j
  · unfold znew; rw [if_neg (by omega), if_neg (by omega), if_neg (by omega)]; exact h3
  · rw [eb 1 (by decide) (by omega)]; exact h4
  · rw [e00] at hb2
    by_cases e : b = c 0 0
    · rw [e, en, if_pos rfl]; exact hk
    · rw [eb b (by omega) e]; exact h5 b hb1 (by omega)
  · by_cases e : b = c 0 0
    · rw [e, en, if_neg (by decide), if_pos rfl]; exact ⟨hn, hn2⟩
    · rw [eb b (by omega) e]; exact h6 b hb
  · by_cases e : b = c 0 0
    · rw [e, en, en, if_pos rfl]
      intro hj
      rw [if_neg (by omega), if_neg (by omega)]
      exact zsl_0 kd j hj
    · rw [eb b (by omega) e]; exact h7 b j hb
  · rw [eb 1 (by decide) (by omega)]; exact h8
  · rw [eb 1 (by decide) (by omega)]; exact h10 j hj
theorem zwf_copy {L : Nat} {xs : Nat → Int32} {c : zC} (h : zwf L xs c) {s sp d dp n : Int} (hs : zkd (c s (-1))) (he : c d (-1) = c s (-1)) (hk : c s (-1) = 100 ∨ c s (-1) = 101) (h1 : 0 ≤ sp) (h2 : 0 ≤ dp) : zwf L xs (zcopy c s sp d dp n) ∧ (∀ b, b ≠ d → zcopy c s sp d dp n b = c b) := by
  obtain ⟨a1, a2⟩ := zwf_a h hs
  obtain ⟨b1, b2⟩ := zwf_a h (a := d) (by rw [he]; exact hs)
  obtain ⟨g0, g1, g2, g3, g4, g5, g6, g7, g8, g9, g10⟩ := h
  have eo : ∀ b, b ≠ d → zcopy c s sp d dp n b = c b := fun b hb => by
    funext j; unfold zcopy; rw [if_neg (by omega)]
  have em : ∀ b j, j < 0 → zcopy c s sp d dp n b j = c b j := fun b j hj => by unfold zcopy; rw [if_neg (by omega)]
  refine ⟨⟨by rw [eo 0 (by omega)]; exact g0, by rw [eo 0 (by omega)]; exact g1, fun b hb j => ?_, by rw [eo 0 (by omega)]; exact g3, by rw [eo 1 (by omega)]; exact g4, fun b hb1 hb2 => ?_, fun b hb => ?_, fun b j hb => ?_, by rw [eo 1 (by omega)]; exact g8, g9, fun j hj => by rw [eo 1 (by omega)]; exact g10 j hj⟩, eo⟩
  · rw [eo 0 (by omega)] at hb
    rw [eo b (by omega)]
    exact g2 b hb j
  · rw [eo 0 (by omega)] at hb2
    rw [em _ _ (by decide)]
    exact g5 b hb1 hb2
  · rw [em _ _ (by decide)]
    exact g6 b hb
  · rw [em b (-1) (by decide)]
    by_cases e : b = d ∧ dp ≤ j ∧ j < dp + n
    · obtain ⟨rfl, e1, e2⟩ := e
      unfold zcopy
      rw [if_pos ⟨rfl, e1, e2⟩, he]
      intro _
      have := g7 s (sp + (j - dp)) a1 (by omega)
      exact ⟨this.1, this.2.1, fun q1 q2 => by omega⟩
    · have : zcopy c s sp d dp n b j = c b j := by unfold zcopy; rw [if_neg e]
      rw [this]; exact g7 b j hb
/-- what a cell holds, by its kind -/
def zce (b b0 : Nat) (cy : Nat → ClassId) (c : Int → Int) : va_E :=
  if c (-1) = 100 then .inl (cy 0, (c (-2)).toNat, .inl (fun j => Int32.ofInt (c (j : Int))))
  else if c (-1) = 101 then .inl (cy 1, (c (-2)).toNat, .inr (.inl (fun j => Int64.ofInt (c (j : Int)))))
  else if c (-1) = 102 then .inl (cy 2, (c (-2)).toNat, .inl (fun j => Int32.ofInt (c (j : Int))))
  else if 110 ≤ c (-1) then .inl (cy (c (-1) - 107).toNat, (c (-2)).toNat, .inr (.inr (.inr (.inr (fun j => zrf b b0 (c (j : Int)))))))
  else .inr ((c (-1) - 1).toNat, zfl (zV b b0) (fun k => c (k : Int)) 0 (zFT (c (-1) - 1).toNat))
theorem zce_100 {b b0 : Nat} {cy : Nat → ClassId} {c : Int → Int} (h : c (-1) = 100) : zce b b0 cy c = .inl (cy 0, (c (-2)).toNat, .inl (fun j => Int32.ofInt (c (j : Int)))) := by unfold zce; rw [if_pos h]
theorem zce_101 {b b0 : Nat} {cy : Nat → ClassId} {c : Int → Int} (h : c (-1) = 101) : zce b b0 cy c = .inl (cy 1, (c (-2)).toNat, .inr (.inl (fun j => Int64.ofInt (c (j : Int))))) := by unfold zce; rw [if_neg (by omega), if_pos h]
theorem zce_102 {b b0 : Nat} {cy : Nat → ClassId} {c : Int → Int} (h : c (-1) = 102) : zce b b0 cy c = .inl (cy 2, (c (-2)).toNat, .inl (fun j => Int32.ofInt (c (j : Int)))) := by unfold zce; rw [if_neg (by omega), if_neg (by omega), if_pos h]
theorem zce_r {b b0 : Nat} {cy : Nat → ClassId} {c : Int → Int} {n : Nat} (h : c (-1) = 110 + (n : Int)) : zce b b0 cy c = .inl (cy (3 + n), (c (-2)).toNat, .inr (.inr (.inr (.inr (fun j => zrf b b0 (c (j : Int))))))) := by
  unfold zce; rw [if_neg (by omega), if_neg (by omega), if_neg (by omega), if_pos (by omega), show (c (-1) - 107).toNat = 3 + n by omega]
theorem zce_o {b b0 : Nat} {cy : Nat → ClassId} {c : Int → Int} {n : Nat} (h : c (-1) = (n : Int) + 1) (hn : n < 12) : zce b b0 cy c = .inr (n, zfl (zV b b0) (fun k => c (k : Int)) 0 (zFT n)) := by
  unfold zce; rw [if_neg (by omega), if_neg (by omega), if_neg (by omega), if_neg (by omega), show (c (-1) - 1).toNat = n by omega]
def zws (b b0 : Nat) (cy : Nat → ClassId) (c : zC) : va_W := (List.range (c 0 0 - 2).toNat).map (fun k => (b0 + k, zce b b0 cy (c ((k : Int) + 2))))
theorem zws_get {b b0 : Nat} {cy : Nat → ClassId} {c : zC} {a : Int} (h1 : 2 ≤ a) (h2 : a < c 0 0) : (zws b b0 cy c)[(a - 2).toNat]? = some (zro b b0 a, zce b b0 cy (c a)) := by
  unfold zws
  rw [List.getElem?_map, List.getElem?_range (by omega), zro_2 h1]
  simp only [Option.map_some]
  rw [show (((a - 2).toNat : Nat) : Int) + 2 = a by omega]
theorem zws_at {b b0 : Nat} {cy : Nat → ClassId} {c : zC} {k : Nat} {q : Nat × va_E} (h : (zws b b0 cy c)[k]? = some q) : k < (c 0 0 - 2).toNat ∧ q = (b0 + k, zce b b0 cy (c ((k : Int) + 2))) := by
  unfold zws at h
  have hk : k < (c 0 0 - 2).toNat := by
    have := (List.getElem?_eq_some_iff.mp h).1
    simpa using this
  rw [List.getElem?_map, List.getElem?_range hk] at h
  exact ⟨hk, (Option.some.inj h).symm⟩
theorem zws_set {b b0 : Nat} {cy : Nat → ClassId} {c c' : zC} {a : Int} (h1 : 2 ≤ a) (e0 : c' 0 0 = c 0 0) (eo : ∀ b, 2 ≤ b → b ≠ a → c' b = c b) {e : va_E} (he : e = zce b b0 cy (c' a)) : (zws b b0 cy c).set (a - 2).toNat (zro b b0 a, e) = zws b b0 cy c' := by
  subst he
  apply List.ext_getElem?
  intro k
  rw [List.getElem?_set]
  unfold zws
  rw [e0]
  simp only [List.length_map, List.length_range, List.getElem?_map]
  by_cases h : (a - 2).toNat = k
  · rw [if_pos h]
    by_cases hk : k < (c 0 0 - 2).toNat
    · rw [if_pos (by omega), List.getElem?_range hk, zro_2 h1]
      simp only [Option.map_some]
      rw [h, show (k : Int) + 2 = a by omega]
    · rw [if_neg (by omega), List.getElem?_eq_none (by simp; omega)]
      rfl
  · rw [if_neg h]
    by_cases hk : k < (c 0 0 - 2).toNat
    · rw [List.getElem?_range hk]
      simp only [Option.map_some]
      rw [eo _ (by omega) (by omega)]
    · rw [List.getElem?_eq_none (by simp; omega)]
      rfl
theorem zws_new {b b0 : Nat} {cy : Nat → ClassId} {c c' : zC} (h0 : 2 ≤ c 0 0) (e0 : c' 0 0 = c 0 0 + 1) (eo : ∀ b, 1 ≤ b → b < c 0 0 → c' b = c b) : zws b b0 cy c' = zws b b0 cy c ++ [(b0 + (c 0 0 - 2).toNat, zce b b0 cy (c' (c 0 0)))] := by
  unfold zws
  rw [e0, show (c 0 0 + 1 - 2).toNat = (c 0 0 - 2).toNat + 1 by omega, List.range_succ, List.map_append]
  congr 1
  · apply List.map_congr_left
    intro k hk
    have := List.mem_range.mp hk
    rw [eo _ (by omega) (by omega)]
  · simp only [List.map_cons, List.map_nil]
    rw [show (((c 0 0 - 2).toNat : Nat) : Int) + 2 = c 0 0 by omega]
theorem zws_D {b b0 : Nat} {cy : Nat → ClassId} {c : zC} : va_D (fun q => b0 ≤ q) (zws b b0 cy c) := by
  refine ⟨fun i j p q hi hj e => ?_, fun k q hk => ?_⟩
  · obtain ⟨-, rfl⟩ := zws_at hi
    obtain ⟨-, rfl⟩ := zws_at hj
    simp at e
    omega
  · obtain ⟨-, rfl⟩ := zws_at hk
    simp
-- what the tables say
/-- the words that are no words of the tables of a callee: nest mates' links -/
abbrev zN : Type := String × Nat × MethodName × String
def zKn (NW : List zN) (AO : List String) (TY : List (Nat × FieldType)) (D : va_G) (cy : Nat → ClassId) (U : State) : Prop :=
  va_K D vwCl (TY.map fun q => (cy q.1, q.2)) U ∧ (∀ q ∈ NW, va_Nw (.methodLinkNest q.1 q.2.1 q.2.2.1 q.2.2.2) U) ∧ (∀ C ∈ AO, va_AO C U)
theorem zKn.moved {NW : List zN} {AO : List String} {TY : List (Nat × FieldType)} {D : va_G} {cy : Nat → ClassId} {s U : State} (hW : s.WarmedH U.vm) (h : zKn NW AO TY D cy s) : zKn NW AO TY D cy U :=
  ⟨va_K.moved hW.alike h.1, fun q hq => va_Nw.warmM hW (h.2.1 q hq), fun C hC => va_AO.moved hW.alike (h.2.2 C hC)⟩
theorem zKn.same {NW : List zN} {AO : List String} {TY : List (Nat × FieldType)} {D : va_G} {cy : Nat → ClassId} {s U : State} (hW : s.vm = U.vm) (h : zKn NW AO TY D cy s) : zKn NW AO TY D cy U :=
  ⟨va_K.moved (by rw [← hW]; exact Vm.Alike.refl _) h.1, fun q hq => va_Nw.same rfl hW (h.2.1 q hq), fun C hC => va_AO.moved (by rw [← hW]; exact Vm.Alike.refl _) (h.2.2 C hC)⟩
end
section
/-! The rows: each instruction of the small machine is one of the real machine's. -/
def zTY : List (Nat × FieldType) := [(0, .int), (1, .long), (2, .boolean), (3, .object RX0), (6, .object RX3), (7, .object RX4), (9, .object RX6), (10, .object RX7), (11, .object RX8)]
def zAO : List String := [RX0, RX3, RX4, RX6, RX7, RX8]
def zNW : List zN := [(RX11, 11, yX9_init, RX11), (RX9, 24, yX4_init, RX11), (RX9, 31, yX7_init, RX11), (RX9, 38, yX6_init, RX11), (RX8, 36, yX4_init, RX11), (RX8, 37, yX7_init, RX11), (RX8, 38, yX6_init, RX11), (RX11, 41, yX1_init, RX11), (RX3, 46, yX5_init, RX11), (RX3, 51, yX0_init, RX11)]
abbrev zKN (D : va_G) (cy : Nat → ClassId) (U : State) : Prop := zKn zNW zAO zTY D cy U
abbrev zA (b0 : Nat) : Nat → Prop := fun q => b0 ≤ q
/-- a method as the tables and the small machine have it: its name, bytes, locals, answer's type, arguments' kinds, code, cuts -/
abbrev zT : Type := MethodName × ByteArray × Nat × Option FieldType × List Nat × (Nat → zIns) × (Nat → Option (List Bool))
def zrv (b b0 : Nat) (rt : Option FieldType) (v : Int) : Option Value := match rt with
  | none => none
  | some ty => some (zV b b0 (ztg ty, v))
def zokr (rt : Option FieldType) (v : Int) : Prop := match rt with
  | none => True
  | some ty => zokv (ztg ty, v)
def zPc (D : va_G) (cy : Nat → ClassId) (b b0 L : Nat) (xs : Nat → Int32) (tg : List Nat) (as : List Int) (c : zC) : Array Value → State → Prop := fun a U =>
  a = ((List.zip tg as).map (zV b b0)).toArray ∧ va_P D vwCl (zws b b0 cy c) U.heap ∧ U.heap.size = b0 + (c 0 0 - 2).toNat ∧ zKN D cy U ∧ va_X b L xs U U.heap
def zQc (D : va_G) (cy : Nat → ClassId) (b b0 : Nat) (rt : Option FieldType) (v : Int) (c' : zC) : Array Value → State → Outcome → State → Prop := fun _ st oc t =>
  oc = .returned (zrv b b0 rt v) ∧ va_P D vwCl (zws b b0 cy c') t.heap ∧ va_F (zA b0) st t
def zrm (c c' : zC) (dl : Nat) : Room := { frames := dl, cells := (c' 0 0 - c 0 0).toNat, slots := (c' 0 1 - c 0 1).toNat, locals := 64 * dl }
/-- what a call keeps: a method's contract for these arguments and this heap -/
def zCon (D : va_G) (cy : Nat → ClassId) (b b0 L : Nat) (xs : Nat → Int32) (l : Launch) (dl : Nat) (q : zT) (as : List Int) (c : zC) (v : Int) (c' : zC) : Prop :=
  b < b0 → zwf L xs c → zokl (List.zip q.2.2.2.2.1 as) → as.length = q.2.2.2.2.1.length → (zokr q.2.2.2.1 v ∧ zwf L xs c' ∧ c 0 0 ≤ c' 0 0 ∧ c 0 1 ≤ c' 0 1) ∧
    Met l q.1 (.code q.1 q.2.1 q.2.2.1 q.2.2.2.1 :: zWS) (zrm c c' dl) (zPc D cy b b0 L xs q.2.2.2.2.1 as c) (zQc D cy b b0 q.2.2.2.1 v c') (c' 0 0 - c 0 0).toNat (c' 0 1 - c 0 1).toNat (zA b0)
/-- all calls keep their contracts; tab: the methods by their numbers -/
def zHC (tab : Nat → zT) (D : va_G) (cy : Nat → ClassId) (b b0 L : Nat) (xs : Nat → Int32) (l : Launch) (call : zCall) (dl : Nat) : Prop :=
  ∀ (mi : Nat) (as : List Int) (c : zC) (v : Int) (c' : zC), call mi as c = some (v, c') → zCon D cy b b0 L xs l dl (tab mi) as c v c'
/-- a frame of the real machine, as a method's body starts -/
def zFx (D : va_G) (cy : Nat → ClassId) (b b0 L : Nat) (xs : Nat → Int32) (own : String) (cc : ByteArray) (nL : Nat) (nm : String) (p : Program) (R : Room) (s : State) (m : MethodId) (args : Array Value) (meth : Method) (cd : Code) (n0 s0 : Int) (dl : Nat) (c' : zC) : Prop :=
  p.tables.exec = Jvm.exec ∧ cd.code = cc ∧ cd.maxLocals = nL ∧ s.vm.findClass own = some m.cls ∧ (∀ w ∈ zWS, w.before args s = true) ∧ zKN D cy s ∧ va_X b L xs s s.heap ∧ b < b0 ∧ s.heap.size = b0 + (n0 - 2).toNat ∧ 2 ≤ n0 ∧ 0 ≤ s0 ∧ dl + 1 ≤ R.frames ∧ 64 * (dl + 1) ≤ R.locals ∧ (c' 0 0 - n0).toNat ≤ R.cells ∧ (c' 0 1 - s0).toNat ≤ R.slots ∧ meth.name = nm
/-- a return: the instruction and the stack -/
def zRA (b b0 : Nat) (cc : ByteArray) (rt : Option FieldType) (pc : Nat) (v : Int) (stv : List Value) : Prop := match rt with
  | none => decode cc pc = .ok (.return_, 1) ∧ stv = []
  | some .int => decode cc pc = .ok (.ireturn, 1) ∧ stv = [zV b b0 (0, v)]
  | some .boolean => decode cc pc = .ok (.ireturn, 1) ∧ stv = [zV b b0 (0, v)] ∧ (v = 0 ∨ v = 1)
  | some .long => decode cc pc = .ok (.lreturn, 1) ∧ stv = [zV b b0 (1, v)]
  | some (.object _) => decode cc pc = .ok (.areturn, 1) ∧ stv = [zV b b0 (2, v)]
  | _ => False
def zRt (D : va_G) (cy : Nat → ClassId) (b b0 : Nat) (cc : ByteArray) (rt : Option FieldType) (p : Program) (l : Launch) (e : Env) (R : Room) (s : State) (m : MethodId) (args : Array Value) (below : List Frame) (meth : Method) (cd : Code) (Q : State → Prop) (n0 s0 : Int) (v : Int) (c' : zC) : Prop :=
  ∀ (pc : Nat) (H : Heap) (locs : List Loc) (lsR : Array Slot) (stv : List Value), zRA b b0 cc rt pc v stv → va_P D vwCl (zws b b0 cy c') H → va_S (zA b0) s.heap H locs → W p l e R s m args below meth cd H locs (c' 0 0 - n0).toNat (c' 0 1 - s0).toNat Q (F0 m pc lsR stv)
/-- from this place the small machine comes to (v, c'), and the real one to what follows from it -/
def zWA (D : va_G) (cy : Nat → ClassId) (b b0 L : Nat) (xs : Nat → Int32) (own : String) (cc : ByteArray) (nL : Nat) (rt : Option FieldType) (nm : String) (dl : Nat) (p : Program) (l : Launch) (e : Env) (R : Room) (s : State) (m : MethodId) (args : Array Value) (below : List Frame) (meth : Method) (cd : Code) (Q : State → Prop) (n0 s0 : Int) (v : Int) (c' : zC) (pc : Nat) (ls st : List zTV) (c : zC) : Prop :=
  zwf L xs c → zokl ls → zokl st → ls.length = nL → (zokr rt v ∧ zwf L xs c' ∧ c 0 0 ≤ c' 0 0 ∧ c 0 1 ≤ c' 0 1) ∧
    (zFx D cy b b0 L xs own cc nL nm p R s m args meth cd n0 s0 dl c' → zRt D cy b b0 cc rt p l e R s m args below meth cd Q n0 s0 v c' → n0 ≤ c 0 0 → s0 ≤ c 0 1 → ∀ (H : Heap) (locs : List Loc) (lsR : Array Slot), va_P D vwCl (zws b b0 cy c) H → va_S (zA b0) s.heap H locs → lv_has lsR nL (zlv (zV b b0) 0 ls) → W p l e R s m args below meth cd H locs (c 0 0 - n0).toNat (c 0 1 - s0).toNat Q (F0 m pc lsR (st.map (zV b b0))))
def zSound (tab : Nat → zT) (own : String) (cc : ByteArray) (nL : Nat) (rt : Option FieldType) (nm : String) (pc : Nat) (ins : zIns) : Prop :=
  ∀ (D : va_G) (cy : Nat → ClassId) (b b0 L : Nat) (xs : Nat → Int32) (l : Launch) (call : zCall) (p : Program) (e : Env) (R : Room) (s : State) (m : MethodId) (args : Array Value) (below : List Frame) (meth : Method) (cd : Code) (Q : State → Prop) (n0 s0 : Int) (dl : Nat) (v : Int) (c' : zC),
    zHC tab D cy b b0 L xs l call dl → b < b0 →
    ∀ (ls st : List zTV) (c : zC) (k : zK), ins call ls st c k = some (v, c') → (∀ (pc' : Nat) (ls' st' : List zTV) (c1 : zC), k pc' ls' st' c1 = some (v, c') → zWA D cy b b0 L xs own cc nL rt nm dl p l e R s m args below meth cd Q n0 s0 v c' pc' ls' st' c1) →
      zWA D cy b b0 L xs own cc nL rt nm dl p l e R s m args below meth cd Q n0 s0 v c' pc ls st c
/-- the heap's size at any step, out of what the machine counts -/
theorem zW_size {p : Program} {l : Launch} {e : Env} {R : Room} {s : State} {m : MethodId} {args : Array Value} {below : List Frame} {meth : Method} {cd : Code} {Q : State → Prop} {H : Heap} {locs : List Loc} {cells slots : Nat} {g : JFrame} (h : H.size ≤ s.heap.size + cells → W p l e R s m args below meth cd H locs cells slots Q g) : W p l e R s m args below meth cd H locs cells slots Q g := by
  intro T hT X
  exact h (by have := X.heapSize; rw [hT] at this; exact this) T hT X
theorem zsize {D : va_G} {cy : Nat → ClassId} {b b0 : Nat} {s : State} {c : zC} {H : Heap} {locs : List Loc} {n0 : Int} (hP : va_P D vwCl (zws b b0 cy c) H) (hS : va_S (zA b0) s.heap H locs) (hsz : s.heap.size = b0 + (n0 - 2).toNat) (h0 : 2 ≤ n0) (hn : n0 ≤ c 0 0) (hu : H.size ≤ s.heap.size + (c 0 0 - n0).toNat) : H.size = b0 + (c 0 0 - 2).toNat := by
  have h1 : s.heap.size ≤ H.size := hS.1
  by_cases h : c 0 0 = n0
  · rw [h] at hu ⊢; omega
  · have g := zws_get (b := b) (b0 := b0) (cy := cy) (c := c) (a := c 0 0 - 1) (by omega) (by omega)
    have := (hP _ _ g).lt
    simp only [zro_2 (show 2 ≤ c 0 0 - 1 by omega)] at this
    omega
section
variable {tab : Nat → zT} {own : String} {cc : ByteArray} {nL : Nat} {rt : Option FieldType} {nm : String} {pc : Nat}
theorem zs_fail : zSound tab own cc nL rt nm pc zi_fail := by
  intro D cy b b0 L xs l call p e R s m args below meth cd Q n0 s0 dl v c' hCall hbb ls st c k h hk w1 w2 w3 w4
  cases h
theorem zs_iconst {n : Int} (hd : decode cc pc = .ok (.iconst n, 1)) (hv : zin32 n) : zSound tab own cc nL rt nm pc (zi_iconst n (pc + 1)) := by
  intro D cy b b0 L xs l call p e R s m args below meth cd Q n0 s0 dl v c' hCall hbb ls st c k h hk w1 w2 w3 w4
  have g := hk _ _ _ _ h w1 w2 (zokl_c (zok0 hv) w3) w4
  refine ⟨g.1, fun hF hR a1 a2 H locs lsR hP hS hL => ?_⟩
  have hF9 := hF
  obtain ⟨hx, hb, hml, hown, hts, hKn, hX, hbb2, hsz, hn0, hs0, hfr, hlo, hrc, hrs, hnm⟩ := hF9
  exact lv_iconst hx hb hd rfl (g.2 hF hR a1 a2 H locs lsR hP hS hL)
theorem zs_bipush {n : Int} (hd : decode cc pc = .ok (.bipush n, 2)) (hv : zin32 n) (he : (Int8.ofInt n).toInt32 = Int32.ofInt n) : zSound tab own cc nL rt nm pc (zi_iconst n (pc + 2)) := by
  intro D cy b b0 L xs l call p e R s m args below meth cd Q n0 s0 dl v c' hCall hbb ls st c k h hk w1 w2 w3 w4
  have g := hk _ _ _ _ h w1 w2 (zokl_c (zok0 hv) w3) w4
  refine ⟨g.1, fun hF hR a1 a2 H locs lsR hP hS hL => ?_⟩
  have hF9 := hF
  obtain ⟨hx, hb, hml, hown, hts, hKn, hX, hbb2, hsz, hn0, hs0, hfr, hlo, hrc, hrs, hnm⟩ := hF9
  exact lv_bipush hx hb hd he (g.2 hF hR a1 a2 H locs lsR hP hS hL)
theorem zs_sipush {n : Int} (hd : decode cc pc = .ok (.sipush n, 3)) (hv : zin32 n) (he : (Int16.ofInt n).toInt32 = Int32.ofInt n) : zSound tab own cc nL rt nm pc (zi_iconst n (pc + 3)) := by
  intro D cy b b0 L xs l call p e R s m args below meth cd Q n0 s0 dl v c' hCall hbb ls st c k h hk w1 w2 w3 w4
  have g := hk _ _ _ _ h w1 w2 (zokl_c (zok0 hv) w3) w4
  refine ⟨g.1, fun hF hR a1 a2 H locs lsR hP hS hL => ?_⟩
  have hF9 := hF
  obtain ⟨hx, hb, hml, hown, hts, hKn, hX, hbb2, hsz, hn0, hs0, hfr, hlo, hrc, hrs, hnm⟩ := hF9
  exact lv_sipush hx hb hd he (g.2 hF hR a1 a2 H locs lsR hP hS hL)
theorem zs_lconst {n : Fin 2} {x : Int} (hd : decode cc pc = .ok (.lconst n, 1)) (hv : zin64 x) (he : Int64.ofNat (n : Nat) = Int64.ofInt x) : zSound tab own cc nL rt nm pc (zi_lconst x (pc + 1)) := by
  intro D cy b b0 L xs l call p e R s m args below meth cd Q n0 s0 dl v c' hCall hbb ls st c k h hk w1 w2 w3 w4
  have g := hk _ _ _ _ h w1 w2 (zokl_c (zok1 hv) w3) w4
  refine ⟨g.1, fun hF hR a1 a2 H locs lsR hP hS hL => ?_⟩
  have hF9 := hF
  obtain ⟨hx, hb, hml, hown, hts, hKn, hX, hbb2, hsz, hn0, hs0, hfr, hlo, hrc, hrs, hnm⟩ := hF9
  exact lv_lconst hx hb hd he (g.2 hF hR a1 a2 H locs lsR hP hS hL)
theorem zs_ldc2 {index : Nat} {x : Int} (hd : decode cc pc = .ok (.ldc2_w index, 3)) (hv : zin64 x) (hw : Jvm.Cond.constantLong own index (Int64.ofInt x) ∈ zWS) : zSound tab own cc nL rt nm pc (zi_lconst x (pc + 3)) := by
  intro D cy b b0 L xs l call p e R s m args below meth cd Q n0 s0 dl v c' hCall hbb ls st c k h hk w1 w2 w3 w4
  have g := hk _ _ _ _ h w1 w2 (zokl_c (zok1 hv) w3) w4
  refine ⟨g.1, fun hF hR a1 a2 H locs lsR hP hS hL => ?_⟩
  have hF9 := hF
  obtain ⟨hx, hb, hml, hown, hts, hKn, hX, hbb2, hsz, hn0, hs0, hfr, hlo, hrc, hrs, hnm⟩ := hF9
  exact lv_ldc2 hx hb hown (hts _ hw) hd (g.2 hF hR a1 a2 H locs lsR hP hS hL)
theorem zs_null (hd : decode cc pc = .ok (.aconst_null, 1)) : zSound tab own cc nL rt nm pc (zi_null (pc + 1)) := by
  intro D cy b b0 L xs l call p e R s m args below meth cd Q n0 s0 dl v c' hCall hbb ls st c k h hk w1 w2 w3 w4
  have g := hk _ _ _ _ h w1 w2 (zokl_c zok2 w3) w4
  refine ⟨g.1, fun hF hR a1 a2 H locs lsR hP hS hL => ?_⟩
  have hF9 := hF
  obtain ⟨hx, hb, hml, hown, hts, hKn, hX, hbb2, hsz, hn0, hs0, hfr, hlo, hrc, hrs, hnm⟩ := hF9
  exact lv_null hx hb hd (g.2 hF hR a1 a2 H locs lsR hP hS hL)
theorem zs_iload_n {k0 : Fin 4} {i : Nat} (hd : decode cc pc = .ok (.iload_n k0, 1)) (hi0 : (k0 : Nat) = i) : zSound tab own cc nL rt nm pc (zi_load 0 i (pc + 1)) := by
  intro D cy b b0 L xs l call p e R s m args below meth cd Q n0 s0 dl v c' hCall hbb ls st c k h hk w1 w2 w3 w4
  obtain ⟨e1, h⟩ := zc_of h
  have o1 : zokv (0, (znth ls i).2) := by have := znth_ok w2 i; rw [show znth ls i = ((znth ls i).1, (znth ls i).2) from rfl, e1] at this; exact this
  have g := hk _ _ _ _ h w1 w2 (zokl_c o1 w3) w4
  refine ⟨g.1, fun hF hR a1 a2 H locs lsR hP hS hL => ?_⟩
  have hF9 := hF
  obtain ⟨hx, hb, hml, hown, hts, hKn, hX, hbb2, hsz, hn0, hs0, hfr, hlo, hrc, hrs, hnm⟩ := hF9
  have hl := zl_at hL (i := i) (by rw [e1]; decide)
  rw [show zV b b0 (znth ls i) = zV b b0 (0, (znth ls i).2) by rw [show znth ls i = ((znth ls i).1, (znth ls i).2) from rfl, e1]] at hl
  exact lv_iload_n hx hb hd hi0 hl (g.2 hF hR a1 a2 H locs lsR hP hS hL)
theorem zs_iload {i : Nat} (hd : decode cc pc = .ok (.iload i, 2)) : zSound tab own cc nL rt nm pc (zi_load 0 i (pc + 2)) := by
  intro D cy b b0 L xs l call p e R s m args below meth cd Q n0 s0 dl v c' hCall hbb ls st c k h hk w1 w2 w3 w4
  obtain ⟨e1, h⟩ := zc_of h
  have o1 : zokv (0, (znth ls i).2) := by have := znth_ok w2 i; rw [show znth ls i = ((znth ls i).1, (znth ls i).2) from rfl, e1] at this; exact this
  have g := hk _ _ _ _ h w1 w2 (zokl_c o1 w3) w4
  refine ⟨g.1, fun hF hR a1 a2 H locs lsR hP hS hL => ?_⟩
  have hF9 := hF
  obtain ⟨hx, hb, hml, hown, hts, hKn, hX, hbb2, hsz, hn0, hs0, hfr, hlo, hrc, hrs, hnm⟩ := hF9
  have hl := zl_at hL (i := i) (by rw [e1]; decide)
  rw [show zV b b0 (znth ls i) = zV b b0 (0, (znth ls i).2) by rw [show znth ls i = ((znth ls i).1, (znth ls i).2) from rfl, e1]] at hl
  exact lv_iload hx hb hd hl (g.2 hF hR a1 a2 H locs lsR hP hS hL)
theorem zs_lload_n {k0 : Fin 4} {i : Nat} (hd : decode cc pc = .ok (.lload_n k0, 1)) (hi0 : (k0 : Nat) = i) : zSound tab own cc nL rt nm pc (zi_load 1 i (pc + 1)) := by
  intro D cy b b0 L xs l call p e R s m args below meth cd Q n0 s0 dl v c' hCall hbb ls st c k h hk w1 w2 w3 w4
  obtain ⟨e1, h⟩ := zc_of h
  have o1 : zokv (1, (znth ls i).2) := by have := znth_ok w2 i; rw [show znth ls i = ((znth ls i).1, (znth ls i).2) from rfl, e1] at this; exact this
  have g := hk _ _ _ _ h w1 w2 (zokl_c o1 w3) w4
  refine ⟨g.1, fun hF hR a1 a2 H locs lsR hP hS hL => ?_⟩
  have hF9 := hF
  obtain ⟨hx, hb, hml, hown, hts, hKn, hX, hbb2, hsz, hn0, hs0, hfr, hlo, hrc, hrs, hnm⟩ := hF9
  have hl := zl_at hL (i := i) (by rw [e1]; decide)
  rw [show zV b b0 (znth ls i) = zV b b0 (1, (znth ls i).2) by rw [show znth ls i = ((znth ls i).1, (znth ls i).2) from rfl, e1]] at hl
  exact lv_lload_n hx hb hd hi0 hl (g.2 hF hR a1 a2 H locs lsR hP hS hL)
theorem zs_lload {i : Nat} (hd : decode cc pc = .ok (.lload i, 2)) : zSound tab own cc nL rt nm pc (zi_load 1 i (pc + 2)) := by
  intro D cy b b0 L xs l call p e R s m args below meth cd Q n0 s0 dl v c' hCall hbb ls st c k h hk w1 w2 w3 w4
  obtain ⟨e1, h⟩ := zc_of h
  have o1 : zokv (1, (znth ls i).2) := by have := znth_ok w2 i; rw [show znth ls i = ((znth ls i).1, (znth ls i).2) from rfl, e1] at this; exact this
  have g := hk _ _ _ _ h w1 w2 (zokl_c o1 w3) w4
  refine ⟨g.1, fun hF hR a1 a2 H locs lsR hP hS hL => ?_⟩
  have hF9 := hF
  obtain ⟨hx, hb, hml, hown, hts, hKn, hX, hbb2, hsz, hn0, hs0, hfr, hlo, hrc, hrs, hnm⟩ := hF9
  have hl := zl_at hL (i := i) (by rw [e1]; decide)
  rw [show zV b b0 (znth ls i) = zV b b0 (1, (znth ls i).2) by rw [show znth ls i = ((znth ls i).1, (znth ls i).2) from rfl, e1]] at hl
  exact lv_lload hx hb hd hl (g.2 hF hR a1 a2 H locs lsR hP hS hL)
theorem zs_aload_n {k0 : Fin 4} {i : Nat} (hd : decode cc pc = .ok (.aload_n k0, 1)) (hi0 : (k0 : Nat) = i) : zSound tab own cc nL rt nm pc (zi_load 2 i (pc + 1)) := by
  intro D cy b b0 L xs l call p e R s m args below meth cd Q n0 s0 dl v c' hCall hbb ls st c k h hk w1 w2 w3 w4
  obtain ⟨e1, h⟩ := zc_of h
  have g := hk _ _ _ _ h w1 w2 (zokl_c zok2 w3) w4
  refine ⟨g.1, fun hF hR a1 a2 H locs lsR hP hS hL => ?_⟩
  have hF9 := hF
  obtain ⟨hx, hb, hml, hown, hts, hKn, hX, hbb2, hsz, hn0, hs0, hfr, hlo, hrc, hrs, hnm⟩ := hF9
  have hl := zl_at hL (i := i) (by rw [e1]; decide)
  rw [show zV b b0 (znth ls i) = zV b b0 (2, (znth ls i).2) by rw [show znth ls i = ((znth ls i).1, (znth ls i).2) from rfl, e1]] at hl
  have g2 := g.2 hF hR a1 a2 H locs lsR hP hS hL
  rw [List.map_cons] at g2
  by_cases e : (znth ls i).2 = 0
  · have ev : zV b b0 (2, (znth ls i).2) = .null := by show va_rf (zrf b b0 _) = _; unfold zrf; rw [if_pos e]; rfl
    rw [ev] at hl g2
    exact lv_aload_nN hx hb hd hi0 hl g2
  · have ev : zV b b0 (2, (znth ls i).2) = .ref (zro b b0 (znth ls i).2) := by show va_rf (zrf b b0 _) = _; unfold zrf; rw [if_neg e]; rfl
    rw [ev] at hl g2
    exact lv_aload_n hx hb hd hi0 hl g2
theorem zs_aload {i : Nat} (hd : decode cc pc = .ok (.aload i, 2)) : zSound tab own cc nL rt nm pc (zi_load 2 i (pc + 2)) := by
  intro D cy b b0 L xs l call p e R s m args below meth cd Q n0 s0 dl v c' hCall hbb ls st c k h hk w1 w2 w3 w4
  obtain ⟨e1, h⟩ := zc_of h
  have g := hk _ _ _ _ h w1 w2 (zokl_c zok2 w3) w4
  refine ⟨g.1, fun hF hR a1 a2 H locs lsR hP hS hL => ?_⟩
  have hF9 := hF
  obtain ⟨hx, hb, hml, hown, hts, hKn, hX, hbb2, hsz, hn0, hs0, hfr, hlo, hrc, hrs, hnm⟩ := hF9
  have hl := zl_at hL (i := i) (by rw [e1]; decide)
  rw [show zV b b0 (znth ls i) = zV b b0 (2, (znth ls i).2) by rw [show znth ls i = ((znth ls i).1, (znth ls i).2) from rfl, e1]] at hl
  have g2 := g.2 hF hR a1 a2 H locs lsR hP hS hL
  rw [List.map_cons] at g2
  by_cases e : (znth ls i).2 = 0
  · have ev : zV b b0 (2, (znth ls i).2) = .null := by show va_rf (zrf b b0 _) = _; unfold zrf; rw [if_pos e]; rfl
    rw [ev] at hl g2
    exact lv_aloadN hx hb hd hl g2
  · have ev : zV b b0 (2, (znth ls i).2) = .ref (zro b b0 (znth ls i).2) := by show va_rf (zrf b b0 _) = _; unfold zrf; rw [if_neg e]; rfl
    rw [ev] at hl g2
    exact lv_aload hx hb hd hl g2
theorem zs_istore_n {k0 : Fin 4} {i : Nat} (hd : decode cc pc = .ok (.istore_n k0, 1)) (hi0 : (k0 : Nat) = i) (hil : i < nL) : zSound tab own cc nL rt nm pc (zi_store1 0 i (pc + 1)) := by
  intro D cy b b0 L xs l call p e R s m args below meth cd Q n0 s0 dl v c' hCall hbb ls st c k h hk w1 w2 w3 w4
  cases st with
  | nil => cases h
  | cons x st =>
  obtain ⟨e1, h⟩ := zc_of h
  obtain ⟨tx, x⟩ := x
  have e1 : tx = 0 := e1
  subst e1
  have g := hk _ _ _ _ h w1 (zset_ok w2 (zokl_h w3) i) (zokl_t w3) (by rw [zset_len]; exact w4)
  refine ⟨g.1, fun hF hR a1 a2 H locs lsR hP hS hL => ?_⟩
  have hF9 := hF
  obtain ⟨hx, hb, hml, hown, hts, hKn, hX, hbb2, hsz, hn0, hs0, hfr, hlo, hrc, hrs, hnm⟩ := hF9
  refine lv_istore_n hx hb hd hi0 hL hil rfl (fun ls' hl' => ?_)
  exact g.2 hF hR a1 a2 H locs ls' hP hS (zl_sub hl' (zl_set1 (v := (0, x)) rfl (by omega)))
theorem zs_lstore_n {k0 : Fin 4} {i : Nat} (hd : decode cc pc = .ok (.lstore_n k0, 1)) (hi0 : (k0 : Nat) = i) (hil : i + 1 < nL) : zSound tab own cc nL rt nm pc (zi_lstore i (pc + 1)) := by
  intro D cy b b0 L xs l call p e R s m args below meth cd Q n0 s0 dl v c' hCall hbb ls st c k h hk w1 w2 w3 w4
  cases st with
  | nil => cases h
  | cons x st =>
  obtain ⟨e1, h⟩ := zc_of h
  obtain ⟨tx, x⟩ := x
  have e1 : tx = 1 := e1
  subst e1
  have g := hk _ _ _ _ h w1 (zset_ok (zset_ok w2 zok3 _) (zokl_h w3) i) (zokl_t w3) (by rw [zset_len, zset_len]; exact w4)
  refine ⟨g.1, fun hF hR a1 a2 H locs lsR hP hS hL => ?_⟩
  have hF9 := hF
  obtain ⟨hx, hb, hml, hown, hts, hKn, hX, hbb2, hsz, hn0, hs0, hfr, hlo, hrc, hrs, hnm⟩ := hF9
  refine lv_lstore_n hx hb hd hi0 hL hil rfl (fun ls' hl' => ?_)
  exact g.2 hF hR a1 a2 H locs ls' hP hS (zl_sub hl' (zl_set2 (by omega)))
theorem zs_astore_n {k0 : Fin 4} {i : Nat} (hd : decode cc pc = .ok (.astore_n k0, 1)) (hi0 : (k0 : Nat) = i) (hil : i < nL) : zSound tab own cc nL rt nm pc (zi_store1 2 i (pc + 1)) := by
  intro D cy b b0 L xs l call p e R s m args below meth cd Q n0 s0 dl v c' hCall hbb ls st c k h hk w1 w2 w3 w4
  cases st with
  | nil => cases h
  | cons x st =>
  obtain ⟨e1, h⟩ := zc_of h
  obtain ⟨tx, x⟩ := x
  have e1 : tx = 2 := e1
  subst e1
  have g := hk _ _ _ _ h w1 (zset_ok w2 (zokl_h w3) i) (zokl_t w3) (by rw [zset_len]; exact w4)
  refine ⟨g.1, fun hF hR a1 a2 H locs lsR hP hS hL => ?_⟩
  have hF9 := hF
  obtain ⟨hx, hb, hml, hown, hts, hKn, hX, hbb2, hsz, hn0, hs0, hfr, hlo, hrc, hrs, hnm⟩ := hF9
  by_cases e : x = 0
  · have ev : zV b b0 (2, x) = .null := by show va_rf (zrf b b0 _) = _; unfold zrf; rw [if_pos e]; rfl
    rw [List.map_cons, ev]
    refine lv_astore_nN hx hb hd hi0 hL hil rfl (fun ls' hl' => ?_)
    exact g.2 hF hR a1 a2 H locs ls' hP hS (zl_sub hl' (zl_set1 (v := (2, x)) ev (by omega)))
  · have ev : zV b b0 (2, x) = .ref (zro b b0 x) := by show va_rf (zrf b b0 _) = _; unfold zrf; rw [if_neg e]; rfl
    rw [List.map_cons, ev]
    refine lv_astore_n hx hb hd hi0 hL hil rfl (fun ls' hl' => ?_)
    exact g.2 hF hR a1 a2 H locs ls' hP hS (zl_sub hl' (zl_set1 (v := (2, x)) ev (by omega)))
theorem zs_istore {i : Nat} (hd : decode cc pc = .ok (.istore i, 2)) (hil : i < nL) : zSound tab own cc nL rt nm pc (zi_store1 0 i (pc + 2)) := by
  intro D cy b b0 L xs l call p e R s m args below meth cd Q n0 s0 dl v c' hCall hbb ls st c k h hk w1 w2 w3 w4
  cases st with
  | nil => cases h
  | cons x st =>
  obtain ⟨e1, h⟩ := zc_of h
  obtain ⟨tx, x⟩ := x
  have e1 : tx = 0 := e1
  subst e1
  have g := hk _ _ _ _ h w1 (zset_ok w2 (zokl_h w3) i) (zokl_t w3) (by rw [zset_len]; exact w4)
  refine ⟨g.1, fun hF hR a1 a2 H locs lsR hP hS hL => ?_⟩
  have hF9 := hF
  obtain ⟨hx, hb, hml, hown, hts, hKn, hX, hbb2, hsz, hn0, hs0, hfr, hlo, hrc, hrs, hnm⟩ := hF9
  refine lv_istore hx hb hd hL hil rfl (fun ls' hl' => ?_)
  exact g.2 hF hR a1 a2 H locs ls' hP hS (zl_sub hl' (zl_set1 (v := (0, x)) rfl (by omega)))
theorem zs_lstore {i : Nat} (hd : decode cc pc = .ok (.lstore i, 2)) (hil : i + 1 < nL) : zSound tab own cc nL rt nm pc (zi_lstore i (pc + 2)) := by
  intro D cy b b0 L xs l call p e R s m args below meth cd Q n0 s0 dl v c' hCall hbb ls st c k h hk w1 w2 w3 w4
  cases st with
  | nil => cases h
  | cons x st =>
  obtain ⟨e1, h⟩ := zc_of h
  obtain ⟨tx, x⟩ := x
  have e1 : tx = 1 := e1
  subst e1
  have g := hk _ _ _ _ h w1 (zset_ok (zset_ok w2 zok3 _) (zokl_h w3) i) (zokl_t w3) (by rw [zset_len, zset_len]; exact w4)
  refine ⟨g.1, fun hF hR a1 a2 H locs lsR hP hS hL => ?_⟩
  have hF9 := hF
  obtain ⟨hx, hb, hml, hown, hts, hKn, hX, hbb2, hsz, hn0, hs0, hfr, hlo, hrc, hrs, hnm⟩ := hF9
  refine lv_lstore hx hb hd hL hil rfl (fun ls' hl' => ?_)
  exact g.2 hF hR a1 a2 H locs ls' hP hS (zl_sub hl' (zl_set2 (by omega)))
theorem zs_astore {i : Nat} (hd : decode cc pc = .ok (.astore i, 2)) (hil : i < nL) : zSound tab own cc nL rt nm pc (zi_store1 2 i (pc + 2)) := by
  intro D cy b b0 L xs l call p e R s m args below meth cd Q n0 s0 dl v c' hCall hbb ls st c k h hk w1 w2 w3 w4
  cases st with
  | nil => cases h
  | cons x st =>
  obtain ⟨e1, h⟩ := zc_of h
  obtain ⟨tx, x⟩ := x
  have e1 : tx = 2 := e1
  subst e1
  have g := hk _ _ _ _ h w1 (zset_ok w2 (zokl_h w3) i) (zokl_t w3) (by rw [zset_len]; exact w4)
  refine ⟨g.1, fun hF hR a1 a2 H locs lsR hP hS hL => ?_⟩
  have hF9 := hF
  obtain ⟨hx, hb, hml, hown, hts, hKn, hX, hbb2, hsz, hn0, hs0, hfr, hlo, hrc, hrs, hnm⟩ := hF9
  by_cases e : x = 0
  · have ev : zV b b0 (2, x) = .null := by show va_rf (zrf b b0 _) = _; unfold zrf; rw [if_pos e]; rfl
    rw [List.map_cons, ev]
    refine lv_astoreN hx hb hd hL hil rfl (fun ls' hl' => ?_)
    exact g.2 hF hR a1 a2 H locs ls' hP hS (zl_sub hl' (zl_set1 (v := (2, x)) ev (by omega)))
  · have ev : zV b b0 (2, x) = .ref (zro b b0 x) := by show va_rf (zrf b b0 _) = _; unfold zrf; rw [if_neg e]; rfl
    rw [List.map_cons, ev]
    refine lv_astore hx hb hd hL hil rfl (fun ls' hl' => ?_)
    exact g.2 hF hR a1 a2 H locs ls' hP hS (zl_sub hl' (zl_set1 (v := (2, x)) ev (by omega)))
theorem zs_iinc {i : Nat} {d : Int} (hd : decode cc pc = .ok (.iinc i d, 3)) : zSound tab own cc nL rt nm pc (zi_iinc i d (pc + 3)) := by
  intro D cy b b0 L xs l call p e R s m args below meth cd Q n0 s0 dl v c' hCall hbb ls st c k h hk w1 w2 w3 w4
  obtain ⟨e1, h⟩ := zc_of h
  have g := hk _ _ _ _ h w1 (zset_ok w2 (zok0 (zw_in _)) i) w3 (by rw [zset_len]; exact w4)
  refine ⟨g.1, fun hF hR a1 a2 H locs lsR hP hS hL => ?_⟩
  have hF9 := hF
  obtain ⟨hx, hb, hml, hown, hts, hKn, hX, hbb2, hsz, hn0, hs0, hfr, hlo, hrc, hrs, hnm⟩ := hF9
  have hi : (znth ls i).1 ≠ 3 := by rw [e1]; decide
  obtain ⟨kk, hkk⟩ := zl_in (V := zV b b0) hi
  have hil := znth_lt hi
  rw [show zV b b0 (znth ls i) = .int (Int32.ofInt (znth ls i).2) by unfold zV; rw [e1]; rfl] at hkk
  refine lv_iinc hx hb hd hL hkk (v := Int32.ofInt (zw ((znth ls i).2 + d))) (by rw [z32_zw, Int32.ofInt_add]) (by omega) rfl (fun ls' hl' => ?_)
  exact g.2 hF hR a1 a2 H locs ls' hP hS (zl_sub hl' (zl_set1 (v := (0, zw ((znth ls i).2 + d))) rfl hil))
theorem zs_iadd (hd : decode cc pc = .ok (.iadd, 1)) : zSound tab own cc nL rt nm pc (zi_bin zadd (pc + 1)) := by
  intro D cy b b0 L xs l call p e R s m args below meth cd Q n0 s0 dl v c' hCall hbb ls st c k h hk w1 w2 w3 w4
  cases st with
  | nil => cases h
  | cons y st =>
  cases st with
  | nil => cases h
  | cons x st =>
  obtain ⟨e1, h⟩ := zc_of h
  obtain ⟨ty, y⟩ := y
  have e1 : ty = 0 := e1
  subst e1
  obtain ⟨e1, h⟩ := zc_of h
  obtain ⟨tx, x⟩ := x
  have e1 : tx = 0 := e1
  subst e1
  have g := hk _ _ _ _ h w1 w2 (zokl_c (zok0 (zw_in _)) (zokl_t (zokl_t w3))) w4
  refine ⟨g.1, fun hF hR a1 a2 H locs lsR hP hS hL => ?_⟩
  have hF9 := hF
  obtain ⟨hx, hb, hml, hown, hts, hKn, hX, hbb2, hsz, hn0, hs0, hfr, hlo, hrc, hrs, hnm⟩ := hF9
  refine lv_iadd hx hb hd ?_
  rw [← z32_add]
  exact g.2 hF hR a1 a2 H locs lsR hP hS hL
theorem zs_isub (hd : decode cc pc = .ok (.isub, 1)) : zSound tab own cc nL rt nm pc (zi_bin zsub (pc + 1)) := by
  intro D cy b b0 L xs l call p e R s m args below meth cd Q n0 s0 dl v c' hCall hbb ls st c k h hk w1 w2 w3 w4
  cases st with
  | nil => cases h
  | cons y st =>
  cases st with
  | nil => cases h
  | cons x st =>
  obtain ⟨e1, h⟩ := zc_of h
  obtain ⟨ty, y⟩ := y
  have e1 : ty = 0 := e1
  subst e1
  obtain ⟨e1, h⟩ := zc_of h
  obtain ⟨tx, x⟩ := x
  have e1 : tx = 0 := e1
  subst e1
  have g := hk _ _ _ _ h w1 w2 (zokl_c (zok0 (zw_in _)) (zokl_t (zokl_t w3))) w4
  refine ⟨g.1, fun hF hR a1 a2 H locs lsR hP hS hL => ?_⟩
  have hF9 := hF
  obtain ⟨hx, hb, hml, hown, hts, hKn, hX, hbb2, hsz, hn0, hs0, hfr, hlo, hrc, hrs, hnm⟩ := hF9
  refine lv_isub hx hb hd ?_
  rw [← z32_sub]
  exact g.2 hF hR a1 a2 H locs lsR hP hS hL
theorem zs_imul (hd : decode cc pc = .ok (.imul, 1)) : zSound tab own cc nL rt nm pc (zi_bin zmul (pc + 1)) := by
  intro D cy b b0 L xs l call p e R s m args below meth cd Q n0 s0 dl v c' hCall hbb ls st c k h hk w1 w2 w3 w4
  cases st with
  | nil => cases h
  | cons y st =>
  cases st with
  | nil => cases h
  | cons x st =>
  obtain ⟨e1, h⟩ := zc_of h
  obtain ⟨ty, y⟩ := y
  have e1 : ty = 0 := e1
  subst e1
  obtain ⟨e1, h⟩ := zc_of h
  obtain ⟨tx, x⟩ := x
  have e1 : tx = 0 := e1
  subst e1
  have g := hk _ _ _ _ h w1 w2 (zokl_c (zok0 (zw_in _)) (zokl_t (zokl_t w3))) w4
  refine ⟨g.1, fun hF hR a1 a2 H locs lsR hP hS hL => ?_⟩
  have hF9 := hF
  obtain ⟨hx, hb, hml, hown, hts, hKn, hX, hbb2, hsz, hn0, hs0, hfr, hlo, hrc, hrs, hnm⟩ := hF9
  refine lv_imul hx hb hd ?_
  rw [← z32_mul]
  exact g.2 hF hR a1 a2 H locs lsR hP hS hL
theorem zs_ishl (hd : decode cc pc = .ok (.ishl, 1)) : zSound tab own cc nL rt nm pc (zi_bin zishl (pc + 1)) := by
  intro D cy b b0 L xs l call p e R s m args below meth cd Q n0 s0 dl v c' hCall hbb ls st c k h hk w1 w2 w3 w4
  cases st with
  | nil => cases h
  | cons y st =>
  cases st with
  | nil => cases h
  | cons x st =>
  obtain ⟨e1, h⟩ := zc_of h
  obtain ⟨ty, y⟩ := y
  have e1 : ty = 0 := e1
  subst e1
  obtain ⟨e1, h⟩ := zc_of h
  obtain ⟨tx, x⟩ := x
  have e1 : tx = 0 := e1
  subst e1
  have g := hk _ _ _ _ h w1 w2 (zokl_c (zok0 (z32_in _)) (zokl_t (zokl_t w3))) w4
  refine ⟨g.1, fun hF hR a1 a2 H locs lsR hP hS hL => ?_⟩
  have hF9 := hF
  obtain ⟨hx, hb, hml, hown, hts, hKn, hX, hbb2, hsz, hn0, hs0, hfr, hlo, hrc, hrs, hnm⟩ := hF9
  have g2 := g.2 hF hR a1 a2 H locs lsR hP hS hL
  rw [List.map_cons, show zV b b0 (0, zishl x y) = .int (Int32.ofInt (zishl x y)) from rfl] at g2
  unfold zishl at g2
  rw [z32_of] at g2
  exact lv_ishl hx hb hd g2
theorem zs_ishr (hd : decode cc pc = .ok (.ishr, 1)) : zSound tab own cc nL rt nm pc (zi_bin zishr (pc + 1)) := by
  intro D cy b b0 L xs l call p e R s m args below meth cd Q n0 s0 dl v c' hCall hbb ls st c k h hk w1 w2 w3 w4
  cases st with
  | nil => cases h
  | cons y st =>
  cases st with
  | nil => cases h
  | cons x st =>
  obtain ⟨e1, h⟩ := zc_of h
  obtain ⟨ty, y⟩ := y
  have e1 : ty = 0 := e1
  subst e1
  obtain ⟨e1, h⟩ := zc_of h
  obtain ⟨tx, x⟩ := x
  have e1 : tx = 0 := e1
  subst e1
  have g := hk _ _ _ _ h w1 w2 (zokl_c (zok0 (z32_in _)) (zokl_t (zokl_t w3))) w4
  refine ⟨g.1, fun hF hR a1 a2 H locs lsR hP hS hL => ?_⟩
  have hF9 := hF
  obtain ⟨hx, hb, hml, hown, hts, hKn, hX, hbb2, hsz, hn0, hs0, hfr, hlo, hrc, hrs, hnm⟩ := hF9
  have g2 := g.2 hF hR a1 a2 H locs lsR hP hS hL
  rw [List.map_cons, show zV b b0 (0, zishr x y) = .int (Int32.ofInt (zishr x y)) from rfl] at g2
  unfold zishr at g2
  rw [z32_of] at g2
  exact lv_ishr hx hb hd g2
theorem zs_iand (hd : decode cc pc = .ok (.iand, 1)) : zSound tab own cc nL rt nm pc (zi_bin ziand (pc + 1)) := by
  intro D cy b b0 L xs l call p e R s m args below meth cd Q n0 s0 dl v c' hCall hbb ls st c k h hk w1 w2 w3 w4
  cases st with
  | nil => cases h
  | cons y st =>
  cases st with
  | nil => cases h
  | cons x st =>
  obtain ⟨e1, h⟩ := zc_of h
  obtain ⟨ty, y⟩ := y
  have e1 : ty = 0 := e1
  subst e1
  obtain ⟨e1, h⟩ := zc_of h
  obtain ⟨tx, x⟩ := x
  have e1 : tx = 0 := e1
  subst e1
  have g := hk _ _ _ _ h w1 w2 (zokl_c (zok0 (z32_in _)) (zokl_t (zokl_t w3))) w4
  refine ⟨g.1, fun hF hR a1 a2 H locs lsR hP hS hL => ?_⟩
  have hF9 := hF
  obtain ⟨hx, hb, hml, hown, hts, hKn, hX, hbb2, hsz, hn0, hs0, hfr, hlo, hrc, hrs, hnm⟩ := hF9
  have g2 := g.2 hF hR a1 a2 H locs lsR hP hS hL
  rw [List.map_cons, show zV b b0 (0, ziand x y) = .int (Int32.ofInt (ziand x y)) from rfl] at g2
  unfold ziand at g2
  rw [z32_of] at g2
  exact lv_iand hx hb hd g2
theorem zs_ior (hd : decode cc pc = .ok (.ior, 1)) : zSound tab own cc nL rt nm pc (zi_bin zior (pc + 1)) := by
  intro D cy b b0 L xs l call p e R s m args below meth cd Q n0 s0 dl v c' hCall hbb ls st c k h hk w1 w2 w3 w4
  cases st with
  | nil => cases h
  | cons y st =>
  cases st with
  | nil => cases h
  | cons x st =>
  obtain ⟨e1, h⟩ := zc_of h
  obtain ⟨ty, y⟩ := y
  have e1 : ty = 0 := e1
  subst e1
  obtain ⟨e1, h⟩ := zc_of h
  obtain ⟨tx, x⟩ := x
  have e1 : tx = 0 := e1
  subst e1
  have g := hk _ _ _ _ h w1 w2 (zokl_c (zok0 (z32_in _)) (zokl_t (zokl_t w3))) w4
  refine ⟨g.1, fun hF hR a1 a2 H locs lsR hP hS hL => ?_⟩
  have hF9 := hF
  obtain ⟨hx, hb, hml, hown, hts, hKn, hX, hbb2, hsz, hn0, hs0, hfr, hlo, hrc, hrs, hnm⟩ := hF9
  have g2 := g.2 hF hR a1 a2 H locs lsR hP hS hL
  rw [List.map_cons, show zV b b0 (0, zior x y) = .int (Int32.ofInt (zior x y)) from rfl] at g2
  unfold zior at g2
  rw [z32_of] at g2
  exact lv_ior hx hb hd g2
theorem zs_ixor (hd : decode cc pc = .ok (.ixor, 1)) : zSound tab own cc nL rt nm pc (zi_bin zixor (pc + 1)) := by
  intro D cy b b0 L xs l call p e R s m args below meth cd Q n0 s0 dl v c' hCall hbb ls st c k h hk w1 w2 w3 w4
  cases st with
  | nil => cases h
  | cons y st =>
  cases st with
  | nil => cases h
  | cons x st =>
  obtain ⟨e1, h⟩ := zc_of h
  obtain ⟨ty, y⟩ := y
  have e1 : ty = 0 := e1
  subst e1
  obtain ⟨e1, h⟩ := zc_of h
  obtain ⟨tx, x⟩ := x
  have e1 : tx = 0 := e1
  subst e1
  have g := hk _ _ _ _ h w1 w2 (zokl_c (zok0 (z32_in _)) (zokl_t (zokl_t w3))) w4
  refine ⟨g.1, fun hF hR a1 a2 H locs lsR hP hS hL => ?_⟩
  have hF9 := hF
  obtain ⟨hx, hb, hml, hown, hts, hKn, hX, hbb2, hsz, hn0, hs0, hfr, hlo, hrc, hrs, hnm⟩ := hF9
  have g2 := g.2 hF hR a1 a2 H locs lsR hP hS hL
  rw [List.map_cons, show zV b b0 (0, zixor x y) = .int (Int32.ofInt (zixor x y)) from rfl] at g2
  unfold zixor at g2
  rw [z32_of] at g2
  exact lv_ixor hx hb hd g2
theorem zs_land (hd : decode cc pc = .ok (.land, 1)) : zSound tab own cc nL rt nm pc (zi_lbin 1 zland (pc + 1)) := by
  intro D cy b b0 L xs l call p e R s m args below meth cd Q n0 s0 dl v c' hCall hbb ls st c k h hk w1 w2 w3 w4
  cases st with
  | nil => cases h
  | cons y st =>
  cases st with
  | nil => cases h
  | cons x st =>
  obtain ⟨e1, h⟩ := zc_of h
  obtain ⟨ty, y⟩ := y
  have e1 : ty = 1 := e1
  subst e1
  obtain ⟨e1, h⟩ := zc_of h
  obtain ⟨tx, x⟩ := x
  have e1 : tx = 1 := e1
  subst e1
  have g := hk _ _ _ _ h w1 w2 (zokl_c (zok1 (z64_in _)) (zokl_t (zokl_t w3))) w4
  refine ⟨g.1, fun hF hR a1 a2 H locs lsR hP hS hL => ?_⟩
  have hF9 := hF
  obtain ⟨hx, hb, hml, hown, hts, hKn, hX, hbb2, hsz, hn0, hs0, hfr, hlo, hrc, hrs, hnm⟩ := hF9
  have g2 := g.2 hF hR a1 a2 H locs lsR hP hS hL
  rw [List.map_cons, show zV b b0 (1, zland x y) = .long (Int64.ofInt (zland x y)) from rfl] at g2
  unfold zland at g2
  rw [z64_of] at g2
  exact lv_land hx hb hd g2
theorem zs_lor (hd : decode cc pc = .ok (.lor, 1)) : zSound tab own cc nL rt nm pc (zi_lbin 1 zlor (pc + 1)) := by
  intro D cy b b0 L xs l call p e R s m args below meth cd Q n0 s0 dl v c' hCall hbb ls st c k h hk w1 w2 w3 w4
  cases st with
  | nil => cases h
  | cons y st =>
  cases st with
  | nil => cases h
  | cons x st =>
  obtain ⟨e1, h⟩ := zc_of h
  obtain ⟨ty, y⟩ := y
  have e1 : ty = 1 := e1
  subst e1
  obtain ⟨e1, h⟩ := zc_of h
  obtain ⟨tx, x⟩ := x
  have e1 : tx = 1 := e1
  subst e1
  have g := hk _ _ _ _ h w1 w2 (zokl_c (zok1 (z64_in _)) (zokl_t (zokl_t w3))) w4
  refine ⟨g.1, fun hF hR a1 a2 H locs lsR hP hS hL => ?_⟩
  have hF9 := hF
  obtain ⟨hx, hb, hml, hown, hts, hKn, hX, hbb2, hsz, hn0, hs0, hfr, hlo, hrc, hrs, hnm⟩ := hF9
  have g2 := g.2 hF hR a1 a2 H locs lsR hP hS hL
  rw [List.map_cons, show zV b b0 (1, zlor x y) = .long (Int64.ofInt (zlor x y)) from rfl] at g2
  unfold zlor at g2
  rw [z64_of] at g2
  exact lv_lor hx hb hd g2
theorem zs_lshl (hd : decode cc pc = .ok (.lshl, 1)) : zSound tab own cc nL rt nm pc (zi_lbin 0 zlshl (pc + 1)) := by
  intro D cy b b0 L xs l call p e R s m args below meth cd Q n0 s0 dl v c' hCall hbb ls st c k h hk w1 w2 w3 w4
  cases st with
  | nil => cases h
  | cons y st =>
  cases st with
  | nil => cases h
  | cons x st =>
  obtain ⟨e1, h⟩ := zc_of h
  obtain ⟨ty, y⟩ := y
  have e1 : ty = 0 := e1
  subst e1
  obtain ⟨e1, h⟩ := zc_of h
  obtain ⟨tx, x⟩ := x
  have e1 : tx = 1 := e1
  subst e1
  have g := hk _ _ _ _ h w1 w2 (zokl_c (zok1 (z64_in _)) (zokl_t (zokl_t w3))) w4
  refine ⟨g.1, fun hF hR a1 a2 H locs lsR hP hS hL => ?_⟩
  have hF9 := hF
  obtain ⟨hx, hb, hml, hown, hts, hKn, hX, hbb2, hsz, hn0, hs0, hfr, hlo, hrc, hrs, hnm⟩ := hF9
  have g2 := g.2 hF hR a1 a2 H locs lsR hP hS hL
  rw [List.map_cons, show zV b b0 (1, zlshl x y) = .long (Int64.ofInt (zlshl x y)) from rfl] at g2
  unfold zlshl at g2
  rw [z64_of] at g2
  exact lv_lshl hx hb hd rfl g2
theorem zs_lushr (hd : decode cc pc = .ok (.lushr, 1)) : zSound tab own cc nL rt nm pc (zi_lbin 0 zlushr (pc + 1)) := by
  intro D cy b b0 L xs l call p e R s m args below meth cd Q n0 s0 dl v c' hCall hbb ls st c k h hk w1 w2 w3 w4
  cases st with
  | nil => cases h
  | cons y st =>
  cases st with
  | nil => cases h
  | cons x st =>
  obtain ⟨e1, h⟩ := zc_of h
  obtain ⟨ty, y⟩ := y
  have e1 : ty = 0 := e1
  subst e1
  obtain ⟨e1, h⟩ := zc_of h
  obtain ⟨tx, x⟩ := x
  have e1 : tx = 1 := e1
  subst e1
  have g := hk _ _ _ _ h w1 w2 (zokl_c (zok1 (z64_in _)) (zokl_t (zokl_t w3))) w4
  refine ⟨g.1, fun hF hR a1 a2 H locs lsR hP hS hL => ?_⟩
  have hF9 := hF
  obtain ⟨hx, hb, hml, hown, hts, hKn, hX, hbb2, hsz, hn0, hs0, hfr, hlo, hrc, hrs, hnm⟩ := hF9
  have g2 := g.2 hF hR a1 a2 H locs lsR hP hS hL
  rw [List.map_cons, show zV b b0 (1, zlushr x y) = .long (Int64.ofInt (zlushr x y)) from rfl] at g2
  unfold zlushr at g2
  rw [z64_of] at g2
  exact lv_lushr hx hb hd rfl g2
theorem zs_lcmp (hd : decode cc pc = .ok (.lcmp, 1)) : zSound tab own cc nL rt nm pc (zi_lcmp (pc + 1)) := by
  intro D cy b b0 L xs l call p e R s m args below meth cd Q n0 s0 dl v c' hCall hbb ls st c k h hk w1 w2 w3 w4
  cases st with
  | nil => cases h
  | cons y st =>
  cases st with
  | nil => cases h
  | cons x st =>
  obtain ⟨e1, h⟩ := zc_of h
  obtain ⟨ty, y⟩ := y
  have e1 : ty = 1 := e1
  subst e1
  obtain ⟨e1, h⟩ := zc_of h
  obtain ⟨tx, x⟩ := x
  have e1 : tx = 1 := e1
  subst e1
  have g := hk _ _ _ _ h w1 w2 (zokl_c (zok0 (by split; exact ⟨by decide, by decide⟩; split <;> exact ⟨by decide, by decide⟩)) (zokl_t (zokl_t w3))) w4
  refine ⟨g.1, fun hF hR a1 a2 H locs lsR hP hS hL => ?_⟩
  have hF9 := hF
  obtain ⟨hx, hb, hml, hown, hts, hKn, hX, hbb2, hsz, hn0, hs0, hfr, hlo, hrc, hrs, hnm⟩ := hF9
  have oy := (zokl_h w3).2 rfl
  have ox := (zokl_h (zokl_t w3)).2 rfl
  refine W.lcmp hx hb hd ?_
  have e : lg_cmp (Int64.ofInt x) (Int64.ofInt y) = Int32.ofInt (if y < x then 1 else if x = y then 0 else -1) := by
    unfold lg_cmp
    simp only [gt_iff_lt, z64_lt oy ox, z64_eq ox oy]
    split
    · rfl
    · split <;> rfl
  rw [e]
  exact g.2 hF hR a1 a2 H locs lsR hP hS hL
theorem zs_i2l (hd : decode cc pc = .ok (.i2l, 1)) : zSound tab own cc nL rt nm pc (zi_i2l (pc + 1)) := by
  intro D cy b b0 L xs l call p e R s m args below meth cd Q n0 s0 dl v c' hCall hbb ls st c k h hk w1 w2 w3 w4
  cases st with
  | nil => cases h
  | cons x st =>
  obtain ⟨e1, h⟩ := zc_of h
  obtain ⟨tx, x⟩ := x
  have e1 : tx = 0 := e1
  subst e1
  have ox := (zokl_h w3).1 rfl
  have ox : zin32 x := ox
  have g := hk _ _ _ _ h w1 w2 (zokl_c (zok1 (by obtain ⟨q1, q2⟩ := ox; exact ⟨by omega, by omega⟩)) (zokl_t w3)) w4
  refine ⟨g.1, fun hF hR a1 a2 H locs lsR hP hS hL => ?_⟩
  have hF9 := hF
  obtain ⟨hx, hb, hml, hown, hts, hKn, hX, hbb2, hsz, hn0, hs0, hfr, hlo, hrc, hrs, hnm⟩ := hF9
  refine lv_i2l hx hb hd (v := Int64.ofInt x) ?_ (g.2 hF hR a1 a2 H locs lsR hP hS hL)
  rw [← Int64.toInt_inj, Int32.toInt_toInt64, z32_to ox, z64_to (by obtain ⟨q1, q2⟩ := ox; exact ⟨by omega, by omega⟩)]
theorem zs_l2i (hd : decode cc pc = .ok (.l2i, 1)) : zSound tab own cc nL rt nm pc (zi_l2i (pc + 1)) := by
  intro D cy b b0 L xs l call p e R s m args below meth cd Q n0 s0 dl v c' hCall hbb ls st c k h hk w1 w2 w3 w4
  cases st with
  | nil => cases h
  | cons x st =>
  obtain ⟨e1, h⟩ := zc_of h
  obtain ⟨tx, x⟩ := x
  have e1 : tx = 1 := e1
  subst e1
  have g := hk _ _ _ _ h w1 w2 (zokl_c (zok0 (z32_in _)) (zokl_t w3)) w4
  refine ⟨g.1, fun hF hR a1 a2 H locs lsR hP hS hL => ?_⟩
  have hF9 := hF
  obtain ⟨hx, hb, hml, hown, hts, hKn, hX, hbb2, hsz, hn0, hs0, hfr, hlo, hrc, hrs, hnm⟩ := hF9
  refine lv_l2i hx hb hd (v := Int32.ofInt (zl2i x)) ?_ (g.2 hF hR a1 a2 H locs lsR hP hS hL)
  unfold zl2i
  rw [z32_of]
theorem zs_ifeq {off : Int} {t : Nat} (hd : decode cc pc = .ok (.ifCond .eq off, 3)) (ht : (pc : Int) + off = (t : Int)) : zSound tab own cc nL rt nm pc (zi_ifeq t (pc + 3)) := by
  intro D cy b b0 L xs l call p e R s m args below meth cd Q n0 s0 dl v c' hCall hbb ls st c k h hk w1 w2 w3 w4
  cases st with
  | nil => cases h
  | cons x st =>
  obtain ⟨e1, h⟩ := zc_of h
  obtain ⟨tx, x⟩ := x
  have e1 : tx = 0 := e1
  subst e1
  have ox : zin32 x := (zokl_h w3).1 rfl
  have h : (if x = 0 then k t ls st c else k (pc + 3) ls st c) = some (v, c') := h
  by_cases e : x = 0
  · rw [if_pos e] at h
    have g := hk _ _ _ _ h w1 w2 (zokl_t w3) w4
    refine ⟨g.1, fun hF hR a1 a2 H locs lsR hP hS hL => ?_⟩
    have hF9 := hF
    obtain ⟨hx, hb, hml, hown, hts, hKn, hX, hbb2, hsz, hn0, hs0, hfr, hlo, hrc, hrs, hnm⟩ := hF9
    refine lv_if_eq hx hb hd ht (fun q => ?_) (fun q => ?_)
    · exact g.2 hF hR a1 a2 H locs lsR hP hS hL
    · exact absurd ((@z32_if0 x ox).mpr e) q
  · rw [if_neg e] at h
    have g := hk _ _ _ _ h w1 w2 (zokl_t w3) w4
    refine ⟨g.1, fun hF hR a1 a2 H locs lsR hP hS hL => ?_⟩
    have hF9 := hF
    obtain ⟨hx, hb, hml, hown, hts, hKn, hX, hbb2, hsz, hn0, hs0, hfr, hlo, hrc, hrs, hnm⟩ := hF9
    refine lv_if_eq hx hb hd ht (fun q => ?_) (fun q => ?_)
    · exact absurd ((@z32_if0 x ox).mp q) e
    · exact g.2 hF hR a1 a2 H locs lsR hP hS hL
theorem zs_ifne {off : Int} {t : Nat} (hd : decode cc pc = .ok (.ifCond .ne off, 3)) (ht : (pc : Int) + off = (t : Int)) : zSound tab own cc nL rt nm pc (zi_ifeq (pc + 3) t) := by
  intro D cy b b0 L xs l call p e R s m args below meth cd Q n0 s0 dl v c' hCall hbb ls st c k h hk w1 w2 w3 w4
  cases st with
  | nil => cases h
  | cons x st =>
  obtain ⟨e1, h⟩ := zc_of h
  obtain ⟨tx, x⟩ := x
  have e1 : tx = 0 := e1
  subst e1
  have ox : zin32 x := (zokl_h w3).1 rfl
  have h : (if x = 0 then k (pc + 3) ls st c else k t ls st c) = some (v, c') := h
  by_cases e : x = 0
  · rw [if_pos e] at h
    have g := hk _ _ _ _ h w1 w2 (zokl_t w3) w4
    refine ⟨g.1, fun hF hR a1 a2 H locs lsR hP hS hL => ?_⟩
    have hF9 := hF
    obtain ⟨hx, hb, hml, hown, hts, hKn, hX, hbb2, hsz, hn0, hs0, hfr, hlo, hrc, hrs, hnm⟩ := hF9
    refine lv_if_ne hx hb hd ht (fun q => ?_) (fun q => ?_)
    · exact absurd ((@z32_if0 x ox).mpr e) q
    · exact g.2 hF hR a1 a2 H locs lsR hP hS hL
  · rw [if_neg e] at h
    have g := hk _ _ _ _ h w1 w2 (zokl_t w3) w4
    refine ⟨g.1, fun hF hR a1 a2 H locs lsR hP hS hL => ?_⟩
    have hF9 := hF
    obtain ⟨hx, hb, hml, hown, hts, hKn, hX, hbb2, hsz, hn0, hs0, hfr, hlo, hrc, hrs, hnm⟩ := hF9
    refine lv_if_ne hx hb hd ht (fun q => ?_) (fun q => ?_)
    · exact g.2 hF hR a1 a2 H locs lsR hP hS hL
    · exact absurd ((@z32_if0 x ox).mp q) e
theorem zs_iflt {off : Int} {t : Nat} (hd : decode cc pc = .ok (.ifCond .lt off, 3)) (ht : (pc : Int) + off = (t : Int)) : zSound tab own cc nL rt nm pc (zi_iflt t (pc + 3)) := by
  intro D cy b b0 L xs l call p e R s m args below meth cd Q n0 s0 dl v c' hCall hbb ls st c k h hk w1 w2 w3 w4
  cases st with
  | nil => cases h
  | cons x st =>
  obtain ⟨e1, h⟩ := zc_of h
  obtain ⟨tx, x⟩ := x
  have e1 : tx = 0 := e1
  subst e1
  have ox : zin32 x := (zokl_h w3).1 rfl
  have h : (if x < 0 then k t ls st c else k (pc + 3) ls st c) = some (v, c') := h
  by_cases e : x < 0
  · rw [if_pos e] at h
    have g := hk _ _ _ _ h w1 w2 (zokl_t w3) w4
    refine ⟨g.1, fun hF hR a1 a2 H locs lsR hP hS hL => ?_⟩
    have hF9 := hF
    obtain ⟨hx, hb, hml, hown, hts, hKn, hX, hbb2, hsz, hn0, hs0, hfr, hlo, hrc, hrs, hnm⟩ := hF9
    refine lv_if_lt hx hb hd ht (fun q => ?_) (fun q => ?_)
    · exact g.2 hF hR a1 a2 H locs lsR hP hS hL
    · exact absurd ((@z32_lt0 x ox).mpr e) q
  · rw [if_neg e] at h
    have g := hk _ _ _ _ h w1 w2 (zokl_t w3) w4
    refine ⟨g.1, fun hF hR a1 a2 H locs lsR hP hS hL => ?_⟩
    have hF9 := hF
    obtain ⟨hx, hb, hml, hown, hts, hKn, hX, hbb2, hsz, hn0, hs0, hfr, hlo, hrc, hrs, hnm⟩ := hF9
    refine lv_if_lt hx hb hd ht (fun q => ?_) (fun q => ?_)
    · exact absurd ((@z32_lt0 x ox).mp q) e
    · exact g.2 hF hR a1 a2 H locs lsR hP hS hL
theorem zs_ifge {off : Int} {t : Nat} (hd : decode cc pc = .ok (.ifCond .ge off, 3)) (ht : (pc : Int) + off = (t : Int)) : zSound tab own cc nL rt nm pc (zi_iflt (pc + 3) t) := by
  intro D cy b b0 L xs l call p e R s m args below meth cd Q n0 s0 dl v c' hCall hbb ls st c k h hk w1 w2 w3 w4
  cases st with
  | nil => cases h
  | cons x st =>
  obtain ⟨e1, h⟩ := zc_of h
  obtain ⟨tx, x⟩ := x
  have e1 : tx = 0 := e1
  subst e1
  have ox : zin32 x := (zokl_h w3).1 rfl
  have h : (if x < 0 then k (pc + 3) ls st c else k t ls st c) = some (v, c') := h
  by_cases e : x < 0
  · rw [if_pos e] at h
    have g := hk _ _ _ _ h w1 w2 (zokl_t w3) w4
    refine ⟨g.1, fun hF hR a1 a2 H locs lsR hP hS hL => ?_⟩
    have hF9 := hF
    obtain ⟨hx, hb, hml, hown, hts, hKn, hX, hbb2, hsz, hn0, hs0, hfr, hlo, hrc, hrs, hnm⟩ := hF9
    refine lv_if_ge hx hb hd ht (fun q => ?_) (fun q => ?_)
    · exact absurd ((@z32_lt0 x ox).mpr e) (Int32.not_lt.mpr q)
    · exact g.2 hF hR a1 a2 H locs lsR hP hS hL
  · rw [if_neg e] at h
    have g := hk _ _ _ _ h w1 w2 (zokl_t w3) w4
    refine ⟨g.1, fun hF hR a1 a2 H locs lsR hP hS hL => ?_⟩
    have hF9 := hF
    obtain ⟨hx, hb, hml, hown, hts, hKn, hX, hbb2, hsz, hn0, hs0, hfr, hlo, hrc, hrs, hnm⟩ := hF9
    refine lv_if_ge hx hb hd ht (fun q => ?_) (fun q => ?_)
    · exact g.2 hF hR a1 a2 H locs lsR hP hS hL
    · exact absurd ((@z32_lt0 x ox).mp (Int32.not_le.mp q)) e
theorem zs_ifle {off : Int} {t : Nat} (hd : decode cc pc = .ok (.ifCond .le off, 3)) (ht : (pc : Int) + off = (t : Int)) : zSound tab own cc nL rt nm pc (zi_ifle t (pc + 3)) := by
  intro D cy b b0 L xs l call p e R s m args below meth cd Q n0 s0 dl v c' hCall hbb ls st c k h hk w1 w2 w3 w4
  cases st with
  | nil => cases h
  | cons x st =>
  obtain ⟨e1, h⟩ := zc_of h
  obtain ⟨tx, x⟩ := x
  have e1 : tx = 0 := e1
  subst e1
  have ox : zin32 x := (zokl_h w3).1 rfl
  have h : (if x ≤ 0 then k t ls st c else k (pc + 3) ls st c) = some (v, c') := h
  by_cases e : x ≤ 0
  · rw [if_pos e] at h
    have g := hk _ _ _ _ h w1 w2 (zokl_t w3) w4
    refine ⟨g.1, fun hF hR a1 a2 H locs lsR hP hS hL => ?_⟩
    have hF9 := hF
    obtain ⟨hx, hb, hml, hown, hts, hKn, hX, hbb2, hsz, hn0, hs0, hfr, hlo, hrc, hrs, hnm⟩ := hF9
    refine lv_if_le hx hb hd ht (fun q => ?_) (fun q => ?_)
    · exact g.2 hF hR a1 a2 H locs lsR hP hS hL
    · exact absurd ((@z32_le0 x ox).mpr e) q
  · rw [if_neg e] at h
    have g := hk _ _ _ _ h w1 w2 (zokl_t w3) w4
    refine ⟨g.1, fun hF hR a1 a2 H locs lsR hP hS hL => ?_⟩
    have hF9 := hF
    obtain ⟨hx, hb, hml, hown, hts, hKn, hX, hbb2, hsz, hn0, hs0, hfr, hlo, hrc, hrs, hnm⟩ := hF9
    refine lv_if_le hx hb hd ht (fun q => ?_) (fun q => ?_)
    · exact absurd ((@z32_le0 x ox).mp q) e
    · exact g.2 hF hR a1 a2 H locs lsR hP hS hL
theorem zs_ifgt {off : Int} {t : Nat} (hd : decode cc pc = .ok (.ifCond .gt off, 3)) (ht : (pc : Int) + off = (t : Int)) : zSound tab own cc nL rt nm pc (zi_ifle (pc + 3) t) := by
  intro D cy b b0 L xs l call p e R s m args below meth cd Q n0 s0 dl v c' hCall hbb ls st c k h hk w1 w2 w3 w4
  cases st with
  | nil => cases h
  | cons x st =>
  obtain ⟨e1, h⟩ := zc_of h
  obtain ⟨tx, x⟩ := x
  have e1 : tx = 0 := e1
  subst e1
  have ox : zin32 x := (zokl_h w3).1 rfl
  have h : (if x ≤ 0 then k (pc + 3) ls st c else k t ls st c) = some (v, c') := h
  by_cases e : x ≤ 0
  · rw [if_pos e] at h
    have g := hk _ _ _ _ h w1 w2 (zokl_t w3) w4
    refine ⟨g.1, fun hF hR a1 a2 H locs lsR hP hS hL => ?_⟩
    have hF9 := hF
    obtain ⟨hx, hb, hml, hown, hts, hKn, hX, hbb2, hsz, hn0, hs0, hfr, hlo, hrc, hrs, hnm⟩ := hF9
    refine lv_if_gt hx hb hd ht (fun q => ?_) (fun q => ?_)
    · exact absurd ((@z32_le0 x ox).mpr e) (Int32.not_le.mpr q)
    · exact g.2 hF hR a1 a2 H locs lsR hP hS hL
  · rw [if_neg e] at h
    have g := hk _ _ _ _ h w1 w2 (zokl_t w3) w4
    refine ⟨g.1, fun hF hR a1 a2 H locs lsR hP hS hL => ?_⟩
    have hF9 := hF
    obtain ⟨hx, hb, hml, hown, hts, hKn, hX, hbb2, hsz, hn0, hs0, hfr, hlo, hrc, hrs, hnm⟩ := hF9
    refine lv_if_gt hx hb hd ht (fun q => ?_) (fun q => ?_)
    · exact g.2 hF hR a1 a2 H locs lsR hP hS hL
    · exact absurd ((@z32_le0 x ox).mp (Int32.not_lt.mp q)) e
theorem zs_ceq {off : Int} {t : Nat} (hd : decode cc pc = .ok (.if_icmp .eq off, 3)) (ht : (pc : Int) + off = (t : Int)) : zSound tab own cc nL rt nm pc (zi_ceq t (pc + 3)) := by
  intro D cy b b0 L xs l call p e R s m args below meth cd Q n0 s0 dl v c' hCall hbb ls st c k h hk w1 w2 w3 w4
  cases st with
  | nil => cases h
  | cons y st =>
  cases st with
  | nil => cases h
  | cons x st =>
  obtain ⟨e1, h⟩ := zc_of h
  obtain ⟨ty, y⟩ := y
  have e1 : ty = 0 := e1
  subst e1
  obtain ⟨e1, h⟩ := zc_of h
  obtain ⟨tx, x⟩ := x
  have e1 : tx = 0 := e1
  subst e1
  have oy : zin32 y := (zokl_h w3).1 rfl
  have ox : zin32 x := (zokl_h (zokl_t w3)).1 rfl
  have h : (if x = y then k t ls st c else k (pc + 3) ls st c) = some (v, c') := h
  by_cases e : x = y
  · rw [if_pos e] at h
    have g := hk _ _ _ _ h w1 w2 (zokl_t (zokl_t w3)) w4
    refine ⟨g.1, fun hF hR a1 a2 H locs lsR hP hS hL => ?_⟩
    have hF9 := hF
    obtain ⟨hx, hb, hml, hown, hts, hKn, hX, hbb2, hsz, hn0, hs0, hfr, hlo, hrc, hrs, hnm⟩ := hF9
    refine lv_icmp_eq hx hb hd ht (fun q => ?_) (fun q => ?_)
    · exact g.2 hF hR a1 a2 H locs lsR hP hS hL
    · exact absurd ((@z32_eq x y ox oy).mpr e) q
  · rw [if_neg e] at h
    have g := hk _ _ _ _ h w1 w2 (zokl_t (zokl_t w3)) w4
    refine ⟨g.1, fun hF hR a1 a2 H locs lsR hP hS hL => ?_⟩
    have hF9 := hF
    obtain ⟨hx, hb, hml, hown, hts, hKn, hX, hbb2, hsz, hn0, hs0, hfr, hlo, hrc, hrs, hnm⟩ := hF9
    refine lv_icmp_eq hx hb hd ht (fun q => ?_) (fun q => ?_)
    · exact absurd ((@z32_eq x y ox oy).mp q) e
    · exact g.2 hF hR a1 a2 H locs lsR hP hS hL
theorem zs_cne {off : Int} {t : Nat} (hd : decode cc pc = .ok (.if_icmp .ne off, 3)) (ht : (pc : Int) + off = (t : Int)) : zSound tab own cc nL rt nm pc (zi_ceq (pc + 3) t) := by
  intro D cy b b0 L xs l call p e R s m args below meth cd Q n0 s0 dl v c' hCall hbb ls st c k h hk w1 w2 w3 w4
  cases st with
  | nil => cases h
  | cons y st =>
  cases st with
  | nil => cases h
  | cons x st =>
  obtain ⟨e1, h⟩ := zc_of h
  obtain ⟨ty, y⟩ := y
  have e1 : ty = 0 := e1
  subst e1
  obtain ⟨e1, h⟩ := zc_of h
  obtain ⟨tx, x⟩ := x
  have e1 : tx = 0 := e1
  subst e1
  have oy : zin32 y := (zokl_h w3).1 rfl
  have ox : zin32 x := (zokl_h (zokl_t w3)).1 rfl
  have h : (if x = y then k (pc + 3) ls st c else k t ls st c) = some (v, c') := h
  by_cases e : x = y
  · rw [if_pos e] at h
    have g := hk _ _ _ _ h w1 w2 (zokl_t (zokl_t w3)) w4
    refine ⟨g.1, fun hF hR a1 a2 H locs lsR hP hS hL => ?_⟩
    have hF9 := hF
    obtain ⟨hx, hb, hml, hown, hts, hKn, hX, hbb2, hsz, hn0, hs0, hfr, hlo, hrc, hrs, hnm⟩ := hF9
    refine lv_icmp_ne hx hb hd ht (fun q => ?_) (fun q => ?_)
    · exact absurd ((@z32_eq x y ox oy).mpr e) q
    · exact g.2 hF hR a1 a2 H locs lsR hP hS hL
  · rw [if_neg e] at h
    have g := hk _ _ _ _ h w1 w2 (zokl_t (zokl_t w3)) w4
    refine ⟨g.1, fun hF hR a1 a2 H locs lsR hP hS hL => ?_⟩
    have hF9 := hF
    obtain ⟨hx, hb, hml, hown, hts, hKn, hX, hbb2, hsz, hn0, hs0, hfr, hlo, hrc, hrs, hnm⟩ := hF9
    refine lv_icmp_ne hx hb hd ht (fun q => ?_) (fun q => ?_)
    · exact g.2 hF hR a1 a2 H locs lsR hP hS hL
    · exact absurd ((@z32_eq x y ox oy).mp q) e
theorem zs_clt {off : Int} {t : Nat} (hd : decode cc pc = .ok (.if_icmp .lt off, 3)) (ht : (pc : Int) + off = (t : Int)) : zSound tab own cc nL rt nm pc (zi_clt t (pc + 3)) := by
  intro D cy b b0 L xs l call p e R s m args below meth cd Q n0 s0 dl v c' hCall hbb ls st c k h hk w1 w2 w3 w4
  cases st with
  | nil => cases h
  | cons y st =>
  cases st with
  | nil => cases h
  | cons x st =>
  obtain ⟨e1, h⟩ := zc_of h
  obtain ⟨ty, y⟩ := y
  have e1 : ty = 0 := e1
  subst e1
  obtain ⟨e1, h⟩ := zc_of h
  obtain ⟨tx, x⟩ := x
  have e1 : tx = 0 := e1
  subst e1
  have oy : zin32 y := (zokl_h w3).1 rfl
  have ox : zin32 x := (zokl_h (zokl_t w3)).1 rfl
  have h : (if x < y then k t ls st c else k (pc + 3) ls st c) = some (v, c') := h
  by_cases e : x < y
  · rw [if_pos e] at h
    have g := hk _ _ _ _ h w1 w2 (zokl_t (zokl_t w3)) w4
    refine ⟨g.1, fun hF hR a1 a2 H locs lsR hP hS hL => ?_⟩
    have hF9 := hF
    obtain ⟨hx, hb, hml, hown, hts, hKn, hX, hbb2, hsz, hn0, hs0, hfr, hlo, hrc, hrs, hnm⟩ := hF9
    refine lv_icmp_lt hx hb hd ht (fun q => ?_) (fun q => ?_)
    · exact g.2 hF hR a1 a2 H locs lsR hP hS hL
    · exact absurd ((@z32_lt x y ox oy).mpr e) q
  · rw [if_neg e] at h
    have g := hk _ _ _ _ h w1 w2 (zokl_t (zokl_t w3)) w4
    refine ⟨g.1, fun hF hR a1 a2 H locs lsR hP hS hL => ?_⟩
    have hF9 := hF
    obtain ⟨hx, hb, hml, hown, hts, hKn, hX, hbb2, hsz, hn0, hs0, hfr, hlo, hrc, hrs, hnm⟩ := hF9
    refine lv_icmp_lt hx hb hd ht (fun q => ?_) (fun q => ?_)
    · exact absurd ((@z32_lt x y ox oy).mp q) e
    · exact g.2 hF hR a1 a2 H locs lsR hP hS hL
theorem zs_cge {off : Int} {t : Nat} (hd : decode cc pc = .ok (.if_icmp .ge off, 3)) (ht : (pc : Int) + off = (t : Int)) : zSound tab own cc nL rt nm pc (zi_clt (pc + 3) t) := by
  intro D cy b b0 L xs l call p e R s m args below meth cd Q n0 s0 dl v c' hCall hbb ls st c k h hk w1 w2 w3 w4
  cases st with
  | nil => cases h
  | cons y st =>
  cases st with
  | nil => cases h
  | cons x st =>
  obtain ⟨e1, h⟩ := zc_of h
  obtain ⟨ty, y⟩ := y
  have e1 : ty = 0 := e1
  subst e1
  obtain ⟨e1, h⟩ := zc_of h
  obtain ⟨tx, x⟩ := x
  have e1 : tx = 0 := e1
  subst e1
  have oy : zin32 y := (zokl_h w3).1 rfl
  have ox : zin32 x := (zokl_h (zokl_t w3)).1 rfl
  have h : (if x < y then k (pc + 3) ls st c else k t ls st c) = some (v, c') := h
  by_cases e : x < y
  · rw [if_pos e] at h
    have g := hk _ _ _ _ h w1 w2 (zokl_t (zokl_t w3)) w4
    refine ⟨g.1, fun hF hR a1 a2 H locs lsR hP hS hL => ?_⟩
    have hF9 := hF
    obtain ⟨hx, hb, hml, hown, hts, hKn, hX, hbb2, hsz, hn0, hs0, hfr, hlo, hrc, hrs, hnm⟩ := hF9
    refine lv_icmp_ge hx hb hd ht (fun q => ?_) (fun q => ?_)
    · exact absurd ((@z32_lt x y ox oy).mpr e) (Int32.not_lt.mpr q)
    · exact g.2 hF hR a1 a2 H locs lsR hP hS hL
  · rw [if_neg e] at h
    have g := hk _ _ _ _ h w1 w2 (zokl_t (zokl_t w3)) w4
    refine ⟨g.1, fun hF hR a1 a2 H locs lsR hP hS hL => ?_⟩
    have hF9 := hF
    obtain ⟨hx, hb, hml, hown, hts, hKn, hX, hbb2, hsz, hn0, hs0, hfr, hlo, hrc, hrs, hnm⟩ := hF9
    refine lv_icmp_ge hx hb hd ht (fun q => ?_) (fun q => ?_)
    · exact g.2 hF hR a1 a2 H locs lsR hP hS hL
    · exact absurd ((@z32_lt x y ox oy).mp (Int32.not_le.mp q)) e
theorem zs_cle {off : Int} {t : Nat} (hd : decode cc pc = .ok (.if_icmp .le off, 3)) (ht : (pc : Int) + off = (t : Int)) : zSound tab own cc nL rt nm pc (zi_cle t (pc + 3)) := by
  intro D cy b b0 L xs l call p e R s m args below meth cd Q n0 s0 dl v c' hCall hbb ls st c k h hk w1 w2 w3 w4
  cases st with
  | nil => cases h
  | cons y st =>
  cases st with
  | nil => cases h
  | cons x st =>
  obtain ⟨e1, h⟩ := zc_of h
  obtain ⟨ty, y⟩ := y
  have e1 : ty = 0 := e1
  subst e1
  obtain ⟨e1, h⟩ := zc_of h
  obtain ⟨tx, x⟩ := x
  have e1 : tx = 0 := e1
  subst e1
  have oy : zin32 y := (zokl_h w3).1 rfl
  have ox : zin32 x := (zokl_h (zokl_t w3)).1 rfl
  have h : (if x ≤ y then k t ls st c else k (pc + 3) ls st c) = some (v, c') := h
  by_cases e : x ≤ y
  · rw [if_pos e] at h
    have g := hk _ _ _ _ h w1 w2 (zokl_t (zokl_t w3)) w4
    refine ⟨g.1, fun hF hR a1 a2 H locs lsR hP hS hL => ?_⟩
    have hF9 := hF
    obtain ⟨hx, hb, hml, hown, hts, hKn, hX, hbb2, hsz, hn0, hs0, hfr, hlo, hrc, hrs, hnm⟩ := hF9
    refine lv_icmp_le hx hb hd ht (fun q => ?_) (fun q => ?_)
    · exact g.2 hF hR a1 a2 H locs lsR hP hS hL
    · exact absurd ((@z32_le x y ox oy).mpr e) q
  · rw [if_neg e] at h
    have g := hk _ _ _ _ h w1 w2 (zokl_t (zokl_t w3)) w4
    refine ⟨g.1, fun hF hR a1 a2 H locs lsR hP hS hL => ?_⟩
    have hF9 := hF
    obtain ⟨hx, hb, hml, hown, hts, hKn, hX, hbb2, hsz, hn0, hs0, hfr, hlo, hrc, hrs, hnm⟩ := hF9
    refine lv_icmp_le hx hb hd ht (fun q => ?_) (fun q => ?_)
    · exact absurd ((@z32_le x y ox oy).mp q) e
    · exact g.2 hF hR a1 a2 H locs lsR hP hS hL
theorem zs_cgt {off : Int} {t : Nat} (hd : decode cc pc = .ok (.if_icmp .gt off, 3)) (ht : (pc : Int) + off = (t : Int)) : zSound tab own cc nL rt nm pc (zi_cle (pc + 3) t) := by
  intro D cy b b0 L xs l call p e R s m args below meth cd Q n0 s0 dl v c' hCall hbb ls st c k h hk w1 w2 w3 w4
  cases st with
  | nil => cases h
  | cons y st =>
  cases st with
  | nil => cases h
  | cons x st =>
  obtain ⟨e1, h⟩ := zc_of h
  obtain ⟨ty, y⟩ := y
  have e1 : ty = 0 := e1
  subst e1
  obtain ⟨e1, h⟩ := zc_of h
  obtain ⟨tx, x⟩ := x
  have e1 : tx = 0 := e1
  subst e1
  have oy : zin32 y := (zokl_h w3).1 rfl
  have ox : zin32 x := (zokl_h (zokl_t w3)).1 rfl
  have h : (if x ≤ y then k (pc + 3) ls st c else k t ls st c) = some (v, c') := h
  by_cases e : x ≤ y
  · rw [if_pos e] at h
    have g := hk _ _ _ _ h w1 w2 (zokl_t (zokl_t w3)) w4
    refine ⟨g.1, fun hF hR a1 a2 H locs lsR hP hS hL => ?_⟩
    have hF9 := hF
    obtain ⟨hx, hb, hml, hown, hts, hKn, hX, hbb2, hsz, hn0, hs0, hfr, hlo, hrc, hrs, hnm⟩ := hF9
    refine lv_icmp_gt hx hb hd ht (fun q => ?_) (fun q => ?_)
    · exact absurd ((@z32_le x y ox oy).mpr e) (Int32.not_le.mpr q)
    · exact g.2 hF hR a1 a2 H locs lsR hP hS hL
  · rw [if_neg e] at h
    have g := hk _ _ _ _ h w1 w2 (zokl_t (zokl_t w3)) w4
    refine ⟨g.1, fun hF hR a1 a2 H locs lsR hP hS hL => ?_⟩
    have hF9 := hF
    obtain ⟨hx, hb, hml, hown, hts, hKn, hX, hbb2, hsz, hn0, hs0, hfr, hlo, hrc, hrs, hnm⟩ := hF9
    refine lv_icmp_gt hx hb hd ht (fun q => ?_) (fun q => ?_)
    · exact g.2 hF hR a1 a2 H locs lsR hP hS hL
    · exact absurd ((@z32_le x y ox oy).mp (Int32.not_lt.mp q)) e
theorem zs_ifnull {off : Int} {t : Nat} (hd : decode cc pc = .ok (.ifnull off, 3)) (ht : (pc : Int) + off = (t : Int)) : zSound tab own cc nL rt nm pc (zi_ifnull t (pc + 3)) := by
  intro D cy b b0 L xs l call p e R s m args below meth cd Q n0 s0 dl v c' hCall hbb ls st c k h hk w1 w2 w3 w4
  cases st with
  | nil => cases h
  | cons x st =>
  obtain ⟨e1, h⟩ := zc_of h
  obtain ⟨tx, x⟩ := x
  have e1 : tx = 2 := e1
  subst e1
  by_cases e : x = 0
  · subst e
    have g := hk _ _ _ _ h w1 w2 (zokl_t w3) w4
    refine ⟨g.1, fun hF hR a1 a2 H locs lsR hP hS hL => ?_⟩
    have hF9 := hF
    obtain ⟨hx, hb, hml, hown, hts, hKn, hX, hbb2, hsz, hn0, hs0, hfr, hlo, hrc, hrs, hnm⟩ := hF9
    exact lv_ifnullN hx hb hd ht (g.2 hF hR a1 a2 H locs lsR hP hS hL)
  · have h : (if x = 0 then k t ls st c else k (pc + 3) ls st c) = some (v, c') := h
    rw [if_neg e] at h
    have g := hk _ _ _ _ h w1 w2 (zokl_t w3) w4
    refine ⟨g.1, fun hF hR a1 a2 H locs lsR hP hS hL => ?_⟩
    have hF9 := hF
    obtain ⟨hx, hb, hml, hown, hts, hKn, hX, hbb2, hsz, hn0, hs0, hfr, hlo, hrc, hrs, hnm⟩ := hF9
    have ev : zV b b0 (2, x) = .ref (zro b b0 x) := by show va_rf (zrf b b0 x) = _; unfold zrf; rw [if_neg e]; rfl
    rw [List.map_cons, ev]
    exact lv_ifnull hx hb hd (g.2 hF hR a1 a2 H locs lsR hP hS hL)
theorem zs_ifnonnull {off : Int} {t : Nat} (hd : decode cc pc = .ok (.ifnonnull off, 3)) (ht : (pc : Int) + off = (t : Int)) : zSound tab own cc nL rt nm pc (zi_ifnull (pc + 3) t) := by
  intro D cy b b0 L xs l call p e R s m args below meth cd Q n0 s0 dl v c' hCall hbb ls st c k h hk w1 w2 w3 w4
  cases st with
  | nil => cases h
  | cons x st =>
  obtain ⟨e1, h⟩ := zc_of h
  obtain ⟨tx, x⟩ := x
  have e1 : tx = 2 := e1
  subst e1
  by_cases e : x = 0
  · subst e
    have g := hk _ _ _ _ h w1 w2 (zokl_t w3) w4
    refine ⟨g.1, fun hF hR a1 a2 H locs lsR hP hS hL => ?_⟩
    have hF9 := hF
    obtain ⟨hx, hb, hml, hown, hts, hKn, hX, hbb2, hsz, hn0, hs0, hfr, hlo, hrc, hrs, hnm⟩ := hF9
    exact lv_ifnonnullN hx hb hd (g.2 hF hR a1 a2 H locs lsR hP hS hL)
  · have h : (if x = 0 then k (pc + 3) ls st c else k t ls st c) = some (v, c') := h
    rw [if_neg e] at h
    have g := hk _ _ _ _ h w1 w2 (zokl_t w3) w4
    refine ⟨g.1, fun hF hR a1 a2 H locs lsR hP hS hL => ?_⟩
    have hF9 := hF
    obtain ⟨hx, hb, hml, hown, hts, hKn, hX, hbb2, hsz, hn0, hs0, hfr, hlo, hrc, hrs, hnm⟩ := hF9
    have ev : zV b b0 (2, x) = .ref (zro b b0 x) := by show va_rf (zrf b b0 x) = _; unfold zrf; rw [if_neg e]; rfl
    rw [List.map_cons, ev]
    exact lv_ifnonnull hx hb hd ht (g.2 hF hR a1 a2 H locs lsR hP hS hL)
theorem zs_goto {off : Int} {t : Nat} (hd : decode cc pc = .ok (.goto off, 3)) (ht : (pc : Int) + off = (t : Int)) : zSound tab own cc nL rt nm pc (zi_goto t) := by
  intro D cy b b0 L xs l call p e R s m args below meth cd Q n0 s0 dl v c' hCall hbb ls st c k h hk w1 w2 w3 w4
  have g := hk _ _ _ _ h w1 w2 w3 w4
  refine ⟨g.1, fun hF hR a1 a2 H locs lsR hP hS hL => ?_⟩
  have hF9 := hF
  obtain ⟨hx, hb, hml, hown, hts, hKn, hX, hbb2, hsz, hn0, hs0, hfr, hlo, hrc, hrs, hnm⟩ := hF9
  exact lv_goto hx hb hd ht (g.2 hF hR a1 a2 H locs lsR hP hS hL)
theorem zsw_of {x : Int} {d : Nat} {f : Nat → zR} {qs : List (Int × Nat)} {r : Int × zC} (h : zsw x d f qs = some r) : (∃ t, (x, t) ∈ qs ∧ f t = some r) ∨ ((∀ q ∈ qs, x ≠ q.1) ∧ f d = some r) := by
  induction qs with
  | nil => exact Or.inr ⟨(fun q hq => by cases hq), h⟩
  | cons q qs ih =>
    have h : (if x = q.1 then f q.2 else zsw x d f qs) = some r := h
    by_cases e : x = q.1
    · rw [if_pos e] at h
      exact Or.inl ⟨q.2, by rw [e]; exact List.mem_cons_self, h⟩
    · rw [if_neg e] at h
      rcases ih h with ⟨t, h1, h2⟩ | ⟨h1, h2⟩
      · exact Or.inl ⟨t, List.mem_cons_of_mem _ h1, h2⟩
      · refine Or.inr ⟨fun q' hq => ?_, h2⟩
        rcases List.mem_cons.mp hq with rfl | hq
        · exact e
        · exact h1 q' hq
theorem zs_switch {dflt lo hi : Int} {offs : Array Int} {len d : Nat} {qs : List (Int × Nat)} (hd : decode cc pc = .ok (.tableswitch dflt lo hi offs, len)) (hdt : (pc : Int) + dflt = (d : Int)) (hq : ∀ q ∈ qs, lo ≤ q.1 ∧ q.1 ≤ hi ∧ offs[(q.1 - lo).toNat]? = some ((q.2 : Int) - pc)) (hall : ∀ x : Int, lo ≤ x → x ≤ hi → ∃ q ∈ qs, q.1 = x) : zSound tab own cc nL rt nm pc (zi_switch d qs) := by
  intro D cy b b0 L xs l call p e R s m args below meth cd Q n0 s0 dl v c' hCall hbb ls st c k h hk w1 w2 w3 w4
  cases st with
  | nil => cases h
  | cons x st =>
  obtain ⟨e1, h⟩ := zc_of h
  obtain ⟨tx, x⟩ := x
  have e1 : tx = 0 := e1
  subst e1
  have ox : zin32 x := (zokl_h w3).1 rfl
  rcases zsw_of h with ⟨t, h1, h2⟩ | ⟨h1, h2⟩
  · have g := hk _ _ _ _ h2 w1 w2 (zokl_t w3) w4
    refine ⟨g.1, fun hF hR a1 a2 H locs lsR hP hS hL => ?_⟩
    have hF9 := hF
    obtain ⟨hx, hb, hml, hown, hts, hKn, hX, hbb2, hsz, hn0, hs0, hfr, hlo, hrc, hrs, hnm⟩ := hF9
    obtain ⟨q1, q2, q3⟩ := hq _ h1
    exact lv_tableIn hx hb hd (by rw [z32_to ox]; exact Int.not_lt.mpr q1) (by rw [z32_to ox]; exact Int.not_lt.mpr q2) (by rw [z32_to ox]; exact q3) (by omega) (g.2 hF hR a1 a2 H locs lsR hP hS hL)
  · have g := hk _ _ _ _ h2 w1 w2 (zokl_t w3) w4
    refine ⟨g.1, fun hF hR a1 a2 H locs lsR hP hS hL => ?_⟩
    have hF9 := hF
    obtain ⟨hx, hb, hml, hown, hts, hKn, hX, hbb2, hsz, hn0, hs0, hfr, hlo, hrc, hrs, hnm⟩ := hF9
    refine lv_tableOut hx hb hd ?_ hdt (g.2 hF hR a1 a2 H locs lsR hP hS hL)
    rw [z32_to ox]
    by_cases q1 : x < lo
    · exact Or.inl q1
    · by_cases q2 : hi < x
      · exact Or.inr q2
      · obtain ⟨q, hq1, hq2⟩ := hall x (Int.not_lt.mp q1) (Int.not_lt.mp q2)
        exact absurd hq2.symm (h1 q hq1)
theorem zs_dup (hd : decode cc pc = .ok (.dup, 1)) : zSound tab own cc nL rt nm pc (zi_dup (pc + 1)) := by
  intro D cy b b0 L xs l call p e R s m args below meth cd Q n0 s0 dl v c' hCall hbb ls st c k h hk w1 w2 w3 w4
  cases st with
  | nil => cases h
  | cons x st =>
  obtain ⟨e1, h⟩ := zc_no h
  have g := hk _ _ _ _ h w1 w2 (zokl_c (zokl_h w3) w3) w4
  refine ⟨g.1, fun hF hR a1 a2 H locs lsR hP hS hL => ?_⟩
  have hF9 := hF
  obtain ⟨hx, hb, hml, hown, hts, hKn, hX, hbb2, hsz, hn0, hs0, hfr, hlo, hrc, hrs, hnm⟩ := hF9
  exact lv_dup hx hb hd (zV_cat x e1) (g.2 hF hR a1 a2 H locs lsR hP hS hL)
theorem zs_dup2 (hd : decode cc pc = .ok (.dup2, 1)) : zSound tab own cc nL rt nm pc (zi_dup2 (pc + 1)) := by
  intro D cy b b0 L xs l call p e R s m args below meth cd Q n0 s0 dl v c' hCall hbb ls st c k h hk w1 w2 w3 w4
  cases st with
  | nil => cases h
  | cons y st =>
  cases st with
  | nil => cases h
  | cons x st =>
  obtain ⟨e1, h⟩ := zc_no h
  obtain ⟨e2, h⟩ := zc_no h
  have g := hk _ _ _ _ h w1 w2 (zokl_c (zokl_h w3) (zokl_c (zokl_h (zokl_t w3)) w3)) w4
  refine ⟨g.1, fun hF hR a1 a2 H locs lsR hP hS hL => ?_⟩
  have hF9 := hF
  obtain ⟨hx, hb, hml, hown, hts, hKn, hX, hbb2, hsz, hn0, hs0, hfr, hlo, hrc, hrs, hnm⟩ := hF9
  exact lv_dup2_11 hx hb hd (zV_cat y e1) (zV_cat x e2) (g.2 hF hR a1 a2 H locs lsR hP hS hL)
theorem zs_pop (hd : decode cc pc = .ok (.pop, 1)) : zSound tab own cc nL rt nm pc (zi_pop (pc + 1)) := by
  intro D cy b b0 L xs l call p e R s m args below meth cd Q n0 s0 dl v c' hCall hbb ls st c k h hk w1 w2 w3 w4
  cases st with
  | nil => cases h
  | cons x st =>
  obtain ⟨e1, h⟩ := zc_no h
  have g := hk _ _ _ _ h w1 w2 (zokl_t w3) w4
  refine ⟨g.1, fun hF hR a1 a2 H locs lsR hP hS hL => ?_⟩
  have hF9 := hF
  obtain ⟨hx, hb, hml, hown, hts, hKn, hX, hbb2, hsz, hn0, hs0, hfr, hlo, hrc, hrs, hnm⟩ := hF9
  exact lv_pop hx hb hd (zV_cat x e1) (g.2 hF hR a1 a2 H locs lsR hP hS hL)
theorem zs_objinit {index : Nat} (hd : decode cc pc = .ok (.invokespecial index, 3)) (h1 : Cond.methodLink own index objectInit ∈ zWS) (h2 : Cond.instanceMethod objectInit ∈ zWS) (h3 : Cond.code objectInit ⟨#[0xb1]⟩ 1 none ∈ zWS) : zSound tab own cc nL rt nm pc (zi_objinit (pc + 3)) := by
  intro D cy b b0 L xs l call p e R s m args below meth cd Q n0 s0 dl v c' hCall hbb ls st c k h hk w1 w2 w3 w4
  cases st with
  | nil => cases h
  | cons x st =>
  obtain ⟨e1, h⟩ := zc_of h
  obtain ⟨tx, x⟩ := x
  have e1 : tx = 2 := e1
  subst e1
  obtain ⟨e2, h⟩ := zc_le h
  obtain ⟨e3, h⟩ := zi_no h
  have e3 : ¬ x = 0 := e3
  have g := hk _ _ _ _ h w1 w2 (zokl_t w3) w4
  refine ⟨g.1, fun hF hR a1 a2 H locs lsR hP hS hL => ?_⟩
  have hF9 := hF
  obtain ⟨hx, hb, hml, hown, hts, hKn, hX, hbb2, hsz, hn0, hs0, hfr, hlo, hrc, hrs, hnm⟩ := hF9
  have ev : zV b b0 (2, x) = .ref (zro b b0 x) := by show va_rf (zrf b b0 x) = _; unfold zrf; rw [if_neg e3]; rfl
  rw [List.map_cons, ev]
  refine W.objInit hx hb hown (hts _ h1) (hts _ h2) (hts _ h3) rfl (by show lsR.size = _; rw [hL.1, hml]) rfl hd (by omega) ?_ (g.2 hF hR a1 a2 H locs lsR hP hS hL)
  show 2 * 0 + ((st.map (zV b b0)).map fun v => v.category).sum + 12 ≤ R.locals
  rw [zcat_eq]; omega
theorem zs_ret {t : Nat} {ty : FieldType} (hr : rt = some ty) (hz : (ty = .int ∧ t = 0 ∧ decode cc pc = .ok (.ireturn, 1)) ∨ (ty = .long ∧ t = 1 ∧ decode cc pc = .ok (.lreturn, 1)) ∨ (∃ n, ty = .object n ∧ t = 2 ∧ decode cc pc = .ok (.areturn, 1))) : zSound tab own cc nL rt nm pc (zi_ret t) := by
  intro D cy b b0 L xs l call p e R s m args below meth cd Q n0 s0 dl v c' hCall hbb ls st c k h hk w1 w2 w3 w4
  cases st with
  | nil => cases h
  | cons x st =>
  cases st with
  | cons y st => cases h
  | nil =>
  obtain ⟨t2, x⟩ := x
  have h : cond (Nat.beq t2 t) (some (x, c)) none = some (v, c') := h
  obtain ⟨e1, h4⟩ := zc_of h
  have h3 := Option.some.inj h4
  have e4 : x = v := congrArg Prod.fst h3
  have e5 : c = c' := congrArg Prod.snd h3
  clear h
  subst e1 e4 e5
  have oz := zokl_h w3
  rcases hz with ⟨rfl, rfl, hd⟩ | ⟨rfl, rfl, hd⟩ | ⟨n, rfl, rfl, hd⟩ <;> subst hr
  · exact ⟨⟨oz, w1, Int.le_refl _, Int.le_refl _⟩, fun hF hR a1 a2 H locs lsR hP hS hL => hR pc H locs lsR _ ⟨hd, rfl⟩ hP hS⟩
  · exact ⟨⟨oz, w1, Int.le_refl _, Int.le_refl _⟩, fun hF hR a1 a2 H locs lsR hP hS hL => hR pc H locs lsR _ ⟨hd, rfl⟩ hP hS⟩
  · exact ⟨⟨oz, w1, Int.le_refl _, Int.le_refl _⟩, fun hF hR a1 a2 H locs lsR hP hS hL => hR pc H locs lsR _ ⟨hd, rfl⟩ hP hS⟩
theorem zs_zret (hr : rt = some .boolean) (hd : decode cc pc = .ok (.ireturn, 1)) : zSound tab own cc nL rt nm pc zi_zret := by
  intro D cy b b0 L xs l call p e R s m args below meth cd Q n0 s0 dl v c' hCall hbb ls st c k h hk w1 w2 w3 w4
  cases st with
  | nil => cases h
  | cons x st =>
  cases st with
  | cons y st => cases h
  | nil =>
  obtain ⟨e1, h⟩ := zc_of h
  obtain ⟨t2, x⟩ := x
  have e1 : t2 = 0 := e1
  subst e1
  obtain ⟨e2, h⟩ := zi_of h
  cases h
  subst hr
  exact ⟨⟨zokl_h w3, w1, Int.le_refl _, Int.le_refl _⟩, fun hF hR a1 a2 H locs lsR hP hS hL => hR pc H locs lsR _ ⟨hd, rfl, e2⟩ hP hS⟩
theorem zs_vret (hr : rt = none) (hd : decode cc pc = .ok (.return_, 1)) : zSound tab own cc nL rt nm pc zi_vret := by
  intro D cy b b0 L xs l call p e R s m args below meth cd Q n0 s0 dl v c' hCall hbb ls st c k h hk w1 w2 w3 w4
  cases st with
  | cons x st => cases h
  | nil =>
  cases h
  subst hr
  exact ⟨⟨trivial, w1, Int.le_refl _, Int.le_refl _⟩, fun hF hR a1 a2 H locs lsR hP hS hL => hR pc H locs lsR _ ⟨hd, rfl⟩ hP hS⟩
end
end
section
/-! The rows of the instructions that read, write or make cells. -/
def zCI (ci : Nat) (C : String) (T : u_T) (N : Nat) (ty : Nat → FieldType) : Prop :=
  vwCl[ci]? = some (C, T, N) ∧ ci < 12 ∧ (∀ w ∈ u_ws C T N, w ∈ zWS) ∧ (∀ k, k < N → parseFieldDescriptor (T k).2.2.1 = some (ty k)) ∧ (∀ a, a < N → ∀ b, b < N → a ≠ b → (T a).2.1 ≠ (T b).2.1) ∧ (zFT ci).length = N ∧ (∀ k, k < N → (zFT ci)[k]? = some (ztg (ty k)))
theorem zref {b b0 : Nat} {x : Int} (h : x ≠ 0) : zV b b0 (2, x) = .ref (zro b b0 x) := by
  show va_rf (zrf b b0 x) = _
  unfold zrf; rw [if_neg h]; rfl
theorem zfit {b b0 : Nat} {ty : FieldType} {x : Int} (h : ty = .int ∨ ty = .long ∨ (∃ n, ty = .object n) ∨ ∃ t, ty = .array t) : narrow ty (zV b b0 (ztg ty, x)) = zV b b0 (ztg ty, x) ∧ fits ty (zV b b0 (ztg ty, x)) = true := by
  rcases h with rfl | rfl | ⟨n, rfl⟩ | ⟨t, rfl⟩
  · exact ⟨rfl, rfl⟩
  · exact ⟨rfl, rfl⟩
  · by_cases e : x = 0
    · subst e; exact ⟨rfl, rfl⟩
    · show narrow _ (zV b b0 (2, x)) = zV b b0 (2, x) ∧ fits _ (zV b b0 (2, x)) = true
      rw [zref e]; exact ⟨rfl, rfl⟩
  · by_cases e : x = 0
    · subst e; exact ⟨rfl, rfl⟩
    · show narrow _ (zV b b0 (2, x)) = zV b b0 (2, x) ∧ fits _ (zV b b0 (2, x)) = true
      rw [zref e]; exact ⟨rfl, rfl⟩
theorem zfitZ {x : Int} (h : x = 0 ∨ x = 1) : narrow .boolean (.int (Int32.ofInt x)) = .int (Int32.ofInt x) ∧ fits .boolean (.int (Int32.ofInt x)) = true := by
  rcases h with rfl | rfl
  · exact ⟨rfl, rfl⟩
  · exact ⟨rfl, rfl⟩
theorem zCI_he {ci : Nat} {C : String} {T : u_T} {N : Nat} {ty : Nat → FieldType} {b b0 : Nat} {cy : Nat → ClassId} {c : zC} {x : Int} (hC : zCI ci C T N ty) (h1 : 2 ≤ x) (h2 : x < c 0 0) (hk : c x (-1) = (ci : Int) + 1) : (zws b b0 cy c)[(x - 2).toNat]? = some (zro b b0 x, .inr (ci, zfl (zV b b0) (fun k => c x (k : Int)) 0 (zFT ci))) := by
  rw [zws_get h1 h2, zce_o hk hC.2.1]
theorem zCI_kd {ci : Nat} {C : String} {T : u_T} {N : Nat} {ty : Nat → FieldType} (hC : zCI ci C T N ty) {k : Int} (hk : k = (ci : Int) + 1) : zkd k := by
  have := hC.2.1
  exact Or.inl (by omega)
/-- a put's new picture -/
theorem zput_ws {ci : Nat} {C : String} {T : u_T} {N : Nat} {ty : Nat → FieldType} {b b0 : Nat} {cy : Nat → ClassId} {c : zC} {x y : Int} {f : Nat} (hC : zCI ci C T N ty) (h1 : 2 ≤ x) (hk : c x (-1) = (ci : Int) + 1) (hf : f < N) :
    (zws b b0 cy c).set (x - 2).toNat (zro b b0 x, .inr (ci, (zfl (zV b b0) (fun k => c x (k : Int)) 0 (zFT ci)).set f (zV b b0 (ztg (ty f), y)))) = zws b b0 cy (zup c x f y) := by
  refine zws_set h1 (zup_o (Or.inl (by omega))) (fun a h2 h3 => funext fun j => zup_o (Or.inl h3)) ?_
  rw [zce_o (n := ci) (by rw [zup_o (Or.inr (by omega))]; exact hk) hC.2.1]
  congr 2
  refine zfl_set (fun j hj => zup_o (Or.inr (by omega))) (fun t ht => ?_)
  have e := hC.2.2.2.2.2.2 f hf
  rw [e] at ht
  cases ht
  show zV b b0 (_, zup c x f y x f) = _
  rw [zup_s]
theorem zput_sl {ci : Nat} {C : String} {T : u_T} {N : Nat} {ty : Nat → FieldType} {x : Int} {f : Nat} {k : Int} (hC : zCI ci C T N ty) (hk : k = (ci : Int) + 1) (hf : f < N) (ho : zokv (ztg (ty f), x)) : zsl k f x := by
  intro _
  have h12 := hC.2.1
  refine ⟨fun h => by omega, fun h => by omega, fun _ _ => ?_⟩
  rw [show (k - 1).toNat = ci by omega, Int.toNat_natCast, hC.2.2.2.2.2.2 f hf]
  exact ⟨fun h => ho.1 (Option.some.inj h), fun h => ho.2 (Option.some.inj h)⟩
section
variable {tab : Nat → zT} {own : String} {cc : ByteArray} {nL : Nat} {rt : Option FieldType} {nm : String} {pc : Nat}
theorem zs_get {ci f index : Nat} {C : String} {T : u_T} {N : Nat} {ty : Nat → FieldType} {kd fi : Int} {t : Nat} (hC : zCI ci C T N ty) (hd : decode cc pc = .ok (.getfield index, 3)) (hf : f < N) (hkd : kd = (ci : Int) + 1) (hfi : fi = (f : Int)) (ht : t = ztg (ty f)) (hw : Cond.fieldLink own index (T f).1 (T f).2.1 (T f).2.2.1 ∈ zWS) : zSound tab own cc nL rt nm pc (zi_get kd fi t (pc + 3)) := by
  intro D cy b b0 L xs l call p e R s m args below meth cd Q n0 s0 dl v c' hCall hbb ls st c k h hk w1 w2 w3 w4
  cases st with
  | nil => cases h
  | cons x st =>
  obtain ⟨e1, h⟩ := zc_of h
  obtain ⟨tx, x⟩ := x
  have e1 : tx = 2 := e1
  subst e1
  obtain ⟨e2, h⟩ := zi_of h
  have e2 : c x (-1) = kd := e2
  subst hfi ht
  have hk0 : c x (-1) = (ci : Int) + 1 := e2.trans hkd
  obtain ⟨b1, b2⟩ := zwf_a w1 (zCI_kd hC hk0)
  have ok : zokv (ztg (ty f), c x (f : Int)) := by
    have q := (w1.2.2.2.2.2.2.2.1 x (f : Int) b1 (Int.natCast_nonneg f)).2.2
    have h12 := hC.2.1
    have q := q (by omega) (by omega)
    rw [show (c x (-1) - 1).toNat = ci by omega, Int.toNat_natCast, hC.2.2.2.2.2.2 f hf] at q
    exact ⟨fun h => q.1 (by rw [show ztg (ty f) = 0 from h]), fun h => q.2 (by rw [show ztg (ty f) = 1 from h])⟩
  have g := hk _ _ _ _ h w1 w2 (zokl_c ok (zokl_t w3)) w4
  refine ⟨g.1, fun hF hR a1 a2 H locs lsR hP hS hL => ?_⟩
  have hF9 := hF
  obtain ⟨hx, hb, hml, hown, hts, hKn, hX, hbb2, hsz, hn0, hs0, hfr, hlo, hrc, hrs, hnm⟩ := hF9
  rw [List.map_cons, zref (by omega)]
  refine va_get (v := zV b b0 (ztg (ty f), c x (f : Int))) hx hb hts hC.2.2.1 hown hKn.1 hP (x - 2).toNat (zCI_he hC b1 b2 hk0) hC.1 f hf (hts _ hw) (fun _ h => h) ?_ hd (g.2 hF hR a1 a2 H locs lsR hP hS hL)
  rw [zfl_get, hC.2.2.2.2.2.2 f hf]
  simp
theorem zs_put {ci f index : Nat} {C : String} {T : u_T} {N : Nat} {ty : Nat → FieldType} {kd fi : Int} {t : Nat} (hC : zCI ci C T N ty) (hd : decode cc pc = .ok (.putfield index, 3)) (hf : f < N) (hkd : kd = (ci : Int) + 1) (hfi : fi = (f : Int)) (ht : t = ztg (ty f)) (hty : ty f = .int ∨ ty f = .long ∨ (∃ n, ty f = .object n) ∨ ∃ t, ty f = .array t) (hw : Cond.fieldLink own index (T f).1 (T f).2.1 (T f).2.2.1 ∈ zWS)
    (hfin : (T f).2.2.2 = false ∨ ((T f).2.2.2 = true ∧ nm = "<init>" ∧ (T f).1 = own)) : zSound tab own cc nL rt nm pc (zi_put kd fi t (pc + 3)) := by
  intro D cy b b0 L xs l call p e R s m args below meth cd Q n0 s0 dl v c' hCall hbb ls st c k h hk w1 w2 w3 w4
  subst hfi ht
  cases st with
  | nil => cases h
  | cons y st =>
  cases st with
  | nil => cases h
  | cons x st =>
  obtain ⟨e1, h⟩ := zc_of h
  obtain ⟨ty1, y⟩ := y
  have e1 : ty1 = ztg (ty f) := e1
  subst e1
  obtain ⟨e1, h⟩ := zc_of h
  obtain ⟨tx, x⟩ := x
  have e1 : tx = 2 := e1
  subst e1
  obtain ⟨e2, h⟩ := zi_of h
  have e2 : c x (-1) = kd := e2
  have hk0 : c x (-1) = (ci : Int) + 1 := e2.trans hkd
  obtain ⟨b1, b2⟩ := zwf_a w1 (zCI_kd hC hk0)
  have c00 : zup c x f y 0 0 = c 0 0 := zup_o (Or.inl (by omega))
  have c01 : zup c x f y 0 1 = c 0 1 := zup_o (Or.inl (by omega))
  have g := hk _ _ _ _ h (zwf_up w1 (zCI_kd hC hk0) (Int.natCast_nonneg f) (zput_sl hC hk0 hf (zokl_h w3))) w2 (zokl_t (zokl_t w3)) w4
  rw [show zup c (2, x).2 f (ztg (ty f), y).2 = zup c x f y from rfl, c00, c01] at g
  refine ⟨g.1, fun hF hR a1 a2 H locs lsR hP hS hL => ?_⟩
  have hF9 := hF
  obtain ⟨hx, hb, hml, hown, hts, hKn, hX, hbb2, hsz, hn0, hs0, hfr, hlo, hrc, hrs, hnm⟩ := hF9
  rw [List.map_cons, List.map_cons, zref (by omega)]
  obtain ⟨f1, f2⟩ := zfit (b := b) (b0 := b0) (x := y) hty
  have hlen : f < (zfl (zV b b0) (fun k => c x (k : Int)) 0 (zFT ci)).length := by rw [zfl_len, hC.2.2.2.2.2.1]; exact hf
  rcases hfin with hfin | ⟨hfin, hi1, hi2⟩
  · refine va_put (ty := ty f) (v := zV b b0 (ztg (ty f), y)) hx hb hts hC.2.2.1 ty hC.2.2.2.1 hC.2.2.2.2.1 hown hKn.1 hP zws_D hS (x - 2).toNat (zCI_he hC b1 b2 hk0) hC.1 f hf (hts _ hw) (fun _ h => h) hfin (hC.2.2.2.1 f hf) f1 f2 hlen hd (fun H1 locs1 hP1 hD1 hS1 => ?_)
    rw [zput_ws hC b1 hk0 hf] at hP1
    exact g.2 hF hR a1 a2 H1 locs1 lsR hP1 hS1 hL
  · refine va_putF (ty := ty f) (v := zV b b0 (ztg (ty f), y)) hx hb hts hC.2.2.1 ty hC.2.2.2.1 hC.2.2.2.2.1 hown hKn.1 hP zws_D hS (x - 2).toNat (zCI_he hC b1 b2 hk0) hC.1 f hf (hts _ hw) (fun _ h => h) hfin (hnm.trans hi1) hi2 (hC.2.2.2.1 f hf) f1 f2 hlen hd (fun H1 locs1 hP1 hD1 hS1 => ?_)
    rw [zput_ws hC b1 hk0 hf] at hP1
    exact g.2 hF hR a1 a2 H1 locs1 lsR hP1 hS1 hL
theorem zs_putZ {ci f index : Nat} {C : String} {T : u_T} {N : Nat} {ty : Nat → FieldType} {kd fi : Int} (hC : zCI ci C T N ty) (hd : decode cc pc = .ok (.putfield index, 3)) (hf : f < N) (hkd : kd = (ci : Int) + 1) (hfi : fi = (f : Int)) (hty : ty f = .boolean) (hw : Cond.fieldLink own index (T f).1 (T f).2.1 (T f).2.2.1 ∈ zWS)
    (hfin : (T f).2.2.2 = false) : zSound tab own cc nL rt nm pc (zi_putZ kd fi (pc + 3)) := by
  intro D cy b b0 L xs l call p e R s m args below meth cd Q n0 s0 dl v c' hCall hbb ls st c k h hk w1 w2 w3 w4
  subst hfi
  cases st with
  | nil => cases h
  | cons y st =>
  cases st with
  | nil => cases h
  | cons x st =>
  obtain ⟨e1, h⟩ := zc_of h
  obtain ⟨ty1, y⟩ := y
  have e1 : ty1 = 0 := e1
  subst e1
  obtain ⟨e1, h⟩ := zc_of h
  obtain ⟨tx, x⟩ := x
  have e1 : tx = 2 := e1
  subst e1
  obtain ⟨e2, h⟩ := zi_of h
  have e2 : c x (-1) = kd := e2
  obtain ⟨e3, h⟩ := zi_of h
  have e3 : y = 0 ∨ y = 1 := e3
  have hk0 : c x (-1) = (ci : Int) + 1 := e2.trans hkd
  obtain ⟨b1, b2⟩ := zwf_a w1 (zCI_kd hC hk0)
  have c00 : zup c x f y 0 0 = c 0 0 := zup_o (Or.inl (by omega))
  have c01 : zup c x f y 0 1 = c 0 1 := zup_o (Or.inl (by omega))
  have ez : ztg (ty f) = 0 := by rw [hty]; rfl
  have g := hk _ _ _ _ h (zwf_up w1 (zCI_kd hC hk0) (Int.natCast_nonneg f) (zput_sl hC hk0 hf (by rw [ez]; exact zokl_h w3))) w2 (zokl_t (zokl_t w3)) w4
  rw [show zup c (2, x).2 f ((0 : Nat), y).2 = zup c x f y from rfl, c00, c01] at g
  refine ⟨g.1, fun hF hR a1 a2 H locs lsR hP hS hL => ?_⟩
  have hF9 := hF
  obtain ⟨hx, hb, hml, hown, hts, hKn, hX, hbb2, hsz, hn0, hs0, hfr, hlo, hrc, hrs, hnm⟩ := hF9
  rw [List.map_cons, List.map_cons, zref (by omega)]
  obtain ⟨f1, f2⟩ := zfitZ e3
  have hlen : f < (zfl (zV b b0) (fun k => c x (k : Int)) 0 (zFT ci)).length := by rw [zfl_len, hC.2.2.2.2.2.1]; exact hf
  refine va_put (ty := .boolean) (v := zV b b0 (0, y)) hx hb hts hC.2.2.1 ty hC.2.2.2.1 hC.2.2.2.2.1 hown hKn.1 hP zws_D hS (x - 2).toNat (zCI_he hC b1 b2 hk0) hC.1 f hf (hts _ hw) (fun _ h => h) hfin (by rw [hC.2.2.2.1 f hf, hty]) f1 f2 hlen hd (fun H1 locs1 hP1 hD1 hS1 => ?_)
  rw [show zV b b0 (0, y) = zV b b0 (ztg (ty f), y) by rw [ez], zput_ws hC b1 hk0 hf] at hP1
  exact g.2 hF hR a1 a2 H1 locs1 lsR hP1 hS1 hL
-- arrays
theorem zTY_at {cy : Nat → ClassId} {t0 k : Nat} {ty : FieldType} (h : zTY[t0]? = some (k, ty)) : (zTY.map fun q => (cy q.1, q.2))[t0]? = some (cy k, ty) := by
  rw [List.getElem?_map, h]; rfl
theorem zidx {y n : Int} (hy : zin32 y) (h0 : 0 ≤ y) (h1 : y < n) : vp_in (Int32.ofInt y) n.toNat ∧ (Int32.ofInt y).toNatClampNeg = y.toNat ∧ ((y.toNat : Nat) : Int) = y := ⟨z32_vin hy h0 (by omega), z32_clamp hy, by omega⟩
theorem zs_iald (hd : decode cc pc = .ok (.iaload, 1)) : zSound tab own cc nL rt nm pc (zi_ald 100 0 (pc + 1)) := by
  intro D cy b b0 L xs l call p e R s m args below meth cd Q n0 s0 dl v c' hCall hbb ls st c k h hk w1 w2 w3 w4
  cases st with
  | nil => cases h
  | cons y st =>
  cases st with
  | nil => cases h
  | cons x st =>
  obtain ⟨e1, h⟩ := zc_of h
  obtain ⟨ty, y⟩ := y
  have e1 : ty = 0 := e1
  subst e1
  obtain ⟨e1, h⟩ := zc_of h
  obtain ⟨tx, x⟩ := x
  have e1 : tx = 2 := e1
  subst e1
  obtain ⟨e2, h⟩ := zi_of h
  have e2 : c x (-1) = 100 ∧ 0 ≤ y ∧ y < c x (-2) := e2
  obtain ⟨e2, e3, e4⟩ := e2
  have oy : zin32 y := (zokl_h w3).1 rfl
  obtain ⟨b1, b2⟩ := zwf_a w1 (a := x) (Or.inr (Or.inl e2))
  have g := hk _ _ _ _ h w1 w2 (zokl_c (zok0 ((w1.2.2.2.2.2.2.2.1 x y b1 e3).1 (Or.inl e2))) (zokl_t (zokl_t w3))) w4
  refine ⟨g.1, fun hF hR a1 a2 H locs lsR hP hS hL => ?_⟩
  have hF9 := hF
  obtain ⟨hx, hb, hml, hown, hts, hKn, hX, hbb2, hsz, hn0, hs0, hfr, hlo, hrc, hrs, hnm⟩ := hF9
  have g2 := g.2 hF hR a1 a2 H locs lsR hP hS hL
  obtain ⟨i1, i2, i3⟩ := zidx oy e3 e4
  rw [List.map_cons, List.map_cons, zref (by omega)]
  have he := zws_get (b := b) (b0 := b0) (cy := cy) b1 b2
  rw [zce_100 e2] at he
  refine va_iald hx hb hKn.1 hP (x - 2).toNat 0 he (zTY_at rfl) i1 hd ?_
  rw [i2, i3]
  exact g2
theorem zs_ialen (hd : decode cc pc = .ok (.arraylength, 1)) : zSound tab own cc nL rt nm pc (zi_alen 100 (pc + 1)) := by
  intro D cy b b0 L xs l call p e R s m args below meth cd Q n0 s0 dl v c' hCall hbb ls st c k h hk w1 w2 w3 w4
  cases st with
  | nil => cases h
  | cons x st =>
  obtain ⟨e1, h⟩ := zc_of h
  obtain ⟨tx, x⟩ := x
  have e1 : tx = 2 := e1
  subst e1
  obtain ⟨e2, h⟩ := zi_of h
  have e2 : c x (-1) = 100 := e2
  obtain ⟨b1, b2⟩ := zwf_a w1 (a := x) (Or.inr (Or.inl e2))
  obtain ⟨l1, l2⟩ := w1.2.2.2.2.2.2.1 x b1
  have g := hk _ _ _ _ h w1 w2 (zokl_c (zok0 (show zin32 (c x (-2)) from ⟨by omega, by omega⟩)) (zokl_t w3)) w4
  refine ⟨g.1, fun hF hR a1 a2 H locs lsR hP hS hL => ?_⟩
  have hF9 := hF
  obtain ⟨hx, hb, hml, hown, hts, hKn, hX, hbb2, hsz, hn0, hs0, hfr, hlo, hrc, hrs, hnm⟩ := hF9
  have g2 := g.2 hF hR a1 a2 H locs lsR hP hS hL
  rw [List.map_cons, zref (by omega)]
  have he := zws_get (b := b) (b0 := b0) (cy := cy) b1 b2
  rw [zce_100 e2] at he
  refine va_alen hx hb hKn.1 hP (x - 2).toNat 0 he (zTY_at rfl) (v := Int32.ofInt (c x (-2))) ?_ hd g2
  show Int32.ofNat (c x (-2)).toNat = _
  rw [← Int32.ofInt_eq_ofNat, show (((c x (-2)).toNat : Nat) : Int) = c x (-2) by omega]
theorem zs_lald (hd : decode cc pc = .ok (.laload, 1)) : zSound tab own cc nL rt nm pc (zi_ald 101 1 (pc + 1)) := by
  intro D cy b b0 L xs l call p e R s m args below meth cd Q n0 s0 dl v c' hCall hbb ls st c k h hk w1 w2 w3 w4
  cases st with
  | nil => cases h
  | cons y st =>
  cases st with
  | nil => cases h
  | cons x st =>
  obtain ⟨e1, h⟩ := zc_of h
  obtain ⟨ty, y⟩ := y
  have e1 : ty = 0 := e1
  subst e1
  obtain ⟨e1, h⟩ := zc_of h
  obtain ⟨tx, x⟩ := x
  have e1 : tx = 2 := e1
  subst e1
  obtain ⟨e2, h⟩ := zi_of h
  have e2 : c x (-1) = 101 ∧ 0 ≤ y ∧ y < c x (-2) := e2
  obtain ⟨e2, e3, e4⟩ := e2
  have oy : zin32 y := (zokl_h w3).1 rfl
  obtain ⟨b1, b2⟩ := zwf_a w1 (a := x) (Or.inr (Or.inr (Or.inl e2)))
  have g := hk _ _ _ _ h w1 w2 (zokl_c (zok1 ((w1.2.2.2.2.2.2.2.1 x y b1 e3).2.1 e2)) (zokl_t (zokl_t w3))) w4
  refine ⟨g.1, fun hF hR a1 a2 H locs lsR hP hS hL => ?_⟩
  have hF9 := hF
  obtain ⟨hx, hb, hml, hown, hts, hKn, hX, hbb2, hsz, hn0, hs0, hfr, hlo, hrc, hrs, hnm⟩ := hF9
  have g2 := g.2 hF hR a1 a2 H locs lsR hP hS hL
  obtain ⟨i1, i2, i3⟩ := zidx oy e3 e4
  rw [List.map_cons, List.map_cons, zref (by omega)]
  have he := zws_get (b := b) (b0 := b0) (cy := cy) b1 b2
  rw [zce_101 e2] at he
  refine va_lald hx hb hKn.1 hP (x - 2).toNat 1 he (zTY_at rfl) i1 hd ?_
  rw [i2, i3]
  exact g2
theorem zs_lalen (hd : decode cc pc = .ok (.arraylength, 1)) : zSound tab own cc nL rt nm pc (zi_alen 101 (pc + 1)) := by
  intro D cy b b0 L xs l call p e R s m args below meth cd Q n0 s0 dl v c' hCall hbb ls st c k h hk w1 w2 w3 w4
  cases st with
  | nil => cases h
  | cons x st =>
  obtain ⟨e1, h⟩ := zc_of h
  obtain ⟨tx, x⟩ := x
  have e1 : tx = 2 := e1
  subst e1
  obtain ⟨e2, h⟩ := zi_of h
  have e2 : c x (-1) = 101 := e2
  obtain ⟨b1, b2⟩ := zwf_a w1 (a := x) (Or.inr (Or.inr (Or.inl e2)))
  obtain ⟨l1, l2⟩ := w1.2.2.2.2.2.2.1 x b1
  have g := hk _ _ _ _ h w1 w2 (zokl_c (zok0 (show zin32 (c x (-2)) from ⟨by omega, by omega⟩)) (zokl_t w3)) w4
  refine ⟨g.1, fun hF hR a1 a2 H locs lsR hP hS hL => ?_⟩
  have hF9 := hF
  obtain ⟨hx, hb, hml, hown, hts, hKn, hX, hbb2, hsz, hn0, hs0, hfr, hlo, hrc, hrs, hnm⟩ := hF9
  have g2 := g.2 hF hR a1 a2 H locs lsR hP hS hL
  rw [List.map_cons, zref (by omega)]
  have he := zws_get (b := b) (b0 := b0) (cy := cy) b1 b2
  rw [zce_101 e2] at he
  refine va_alen hx hb hKn.1 hP (x - 2).toNat 1 he (zTY_at rfl) (v := Int32.ofInt (c x (-2))) ?_ hd g2
  show Int32.ofNat (c x (-2)).toNat = _
  rw [← Int32.ofInt_eq_ofNat, show (((c x (-2)).toNat : Nat) : Int) = c x (-2) by omega]
theorem zs_zald (hd : decode cc pc = .ok (.baload, 1)) : zSound tab own cc nL rt nm pc (zi_ald 102 0 (pc + 1)) := by
  intro D cy b b0 L xs l call p e R s m args below meth cd Q n0 s0 dl v c' hCall hbb ls st c k h hk w1 w2 w3 w4
  cases st with
  | nil => cases h
  | cons y st =>
  cases st with
  | nil => cases h
  | cons x st =>
  obtain ⟨e1, h⟩ := zc_of h
  obtain ⟨ty, y⟩ := y
  have e1 : ty = 0 := e1
  subst e1
  obtain ⟨e1, h⟩ := zc_of h
  obtain ⟨tx, x⟩ := x
  have e1 : tx = 2 := e1
  subst e1
  obtain ⟨e2, h⟩ := zi_of h
  have e2 : c x (-1) = 102 ∧ 0 ≤ y ∧ y < c x (-2) := e2
  obtain ⟨e2, e3, e4⟩ := e2
  have oy : zin32 y := (zokl_h w3).1 rfl
  obtain ⟨b1, b2⟩ := zwf_a w1 (a := x) (Or.inr (Or.inr (Or.inr (Or.inl e2))))
  have g := hk _ _ _ _ h w1 w2 (zokl_c (zok0 ((w1.2.2.2.2.2.2.2.1 x y b1 e3).1 (Or.inr e2))) (zokl_t (zokl_t w3))) w4
  refine ⟨g.1, fun hF hR a1 a2 H locs lsR hP hS hL => ?_⟩
  have hF9 := hF
  obtain ⟨hx, hb, hml, hown, hts, hKn, hX, hbb2, hsz, hn0, hs0, hfr, hlo, hrc, hrs, hnm⟩ := hF9
  have g2 := g.2 hF hR a1 a2 H locs lsR hP hS hL
  obtain ⟨i1, i2, i3⟩ := zidx oy e3 e4
  rw [List.map_cons, List.map_cons, zref (by omega)]
  have he := zws_get (b := b) (b0 := b0) (cy := cy) b1 b2
  rw [zce_102 e2] at he
  refine va_zald hx hb hKn.1 hP (x - 2).toNat 2 he (zTY_at rfl) i1 hd ?_
  rw [i2, i3]
  exact g2
theorem zs_zalen (hd : decode cc pc = .ok (.arraylength, 1)) : zSound tab own cc nL rt nm pc (zi_alen 102 (pc + 1)) := by
  intro D cy b b0 L xs l call p e R s m args below meth cd Q n0 s0 dl v c' hCall hbb ls st c k h hk w1 w2 w3 w4
  cases st with
  | nil => cases h
  | cons x st =>
  obtain ⟨e1, h⟩ := zc_of h
  obtain ⟨tx, x⟩ := x
  have e1 : tx = 2 := e1
  subst e1
  obtain ⟨e2, h⟩ := zi_of h
  have e2 : c x (-1) = 102 := e2
  obtain ⟨b1, b2⟩ := zwf_a w1 (a := x) (Or.inr (Or.inr (Or.inr (Or.inl e2))))
  obtain ⟨l1, l2⟩ := w1.2.2.2.2.2.2.1 x b1
  have g := hk _ _ _ _ h w1 w2 (zokl_c (zok0 (show zin32 (c x (-2)) from ⟨by omega, by omega⟩)) (zokl_t w3)) w4
  refine ⟨g.1, fun hF hR a1 a2 H locs lsR hP hS hL => ?_⟩
  have hF9 := hF
  obtain ⟨hx, hb, hml, hown, hts, hKn, hX, hbb2, hsz, hn0, hs0, hfr, hlo, hrc, hrs, hnm⟩ := hF9
  have g2 := g.2 hF hR a1 a2 H locs lsR hP hS hL
  rw [List.map_cons, zref (by omega)]
  have he := zws_get (b := b) (b0 := b0) (cy := cy) b1 b2
  rw [zce_102 e2] at he
  refine va_alen hx hb hKn.1 hP (x - 2).toNat 2 he (zTY_at rfl) (v := Int32.ofInt (c x (-2))) ?_ hd g2
  show Int32.ofNat (c x (-2)).toNat = _
  rw [← Int32.ofInt_eq_ofNat, show (((c x (-2)).toNat : Nat) : Int) = c x (-2) by omega]
theorem zs_aald {ci t0 : Nat} {C : String} {kd : Int} (hd : decode cc pc = .ok (.aaload, 1)) (hci : ci < 12) (hkd : kd = 110 + (ci : Int)) (ht : zTY[t0]? = some (3 + ci, .object C)) : zSound tab own cc nL rt nm pc (zi_ald kd 2 (pc + 1)) := by
  intro D cy b b0 L xs l call p e R s m args below meth cd Q n0 s0 dl v c' hCall hbb ls st c k h hk w1 w2 w3 w4
  cases st with
  | nil => cases h
  | cons y st =>
  cases st with
  | nil => cases h
  | cons x st =>
  obtain ⟨e1, h⟩ := zc_of h
  obtain ⟨ty, y⟩ := y
  have e1 : ty = 0 := e1
  subst e1
  obtain ⟨e1, h⟩ := zc_of h
  obtain ⟨tx, x⟩ := x
  have e1 : tx = 2 := e1
  subst e1
  obtain ⟨e2, h⟩ := zi_of h
  have e2 : c x (-1) = kd ∧ 0 ≤ y ∧ y < c x (-2) := e2
  obtain ⟨e2, e3, e4⟩ := e2
  have oy : zin32 y := (zokl_h w3).1 rfl
  obtain ⟨b1, b2⟩ := zwf_a w1 (a := x) (Or.inr (Or.inr (Or.inr (Or.inr (by omega)))))
  have g := hk _ _ _ _ h w1 w2 (zokl_c zok2 (zokl_t (zokl_t w3))) w4
  refine ⟨g.1, fun hF hR a1 a2 H locs lsR hP hS hL => ?_⟩
  have hF9 := hF
  obtain ⟨hx, hb, hml, hown, hts, hKn, hX, hbb2, hsz, hn0, hs0, hfr, hlo, hrc, hrs, hnm⟩ := hF9
  have g2 := g.2 hF hR a1 a2 H locs lsR hP hS hL
  obtain ⟨i1, i2, i3⟩ := zidx oy e3 e4
  rw [List.map_cons, List.map_cons, zref (by omega)]
  have he := zws_get (b := b) (b0 := b0) (cy := cy) b1 b2
  rw [zce_r (n := ci) (e2.trans hkd)] at he
  refine va_aldq hx hb hKn.1 hP (x - 2).toNat t0 he (zTY_at ht) i1 hd ?_
  rw [i2, i3]
  exact g2
theorem zs_aalen {ci t0 : Nat} {C : String} {kd : Int} (hd : decode cc pc = .ok (.arraylength, 1)) (hci : ci < 12) (hkd : kd = 110 + (ci : Int)) (ht : zTY[t0]? = some (3 + ci, .object C)) : zSound tab own cc nL rt nm pc (zi_alen kd (pc + 1)) := by
  intro D cy b b0 L xs l call p e R s m args below meth cd Q n0 s0 dl v c' hCall hbb ls st c k h hk w1 w2 w3 w4
  cases st with
  | nil => cases h
  | cons x st =>
  obtain ⟨e1, h⟩ := zc_of h
  obtain ⟨tx, x⟩ := x
  have e1 : tx = 2 := e1
  subst e1
  obtain ⟨e2, h⟩ := zi_of h
  have e2 : c x (-1) = kd := e2
  obtain ⟨b1, b2⟩ := zwf_a w1 (a := x) (Or.inr (Or.inr (Or.inr (Or.inr (by omega)))))
  obtain ⟨l1, l2⟩ := w1.2.2.2.2.2.2.1 x b1
  have g := hk _ _ _ _ h w1 w2 (zokl_c (zok0 (show zin32 (c x (-2)) from ⟨by omega, by omega⟩)) (zokl_t w3)) w4
  refine ⟨g.1, fun hF hR a1 a2 H locs lsR hP hS hL => ?_⟩
  have hF9 := hF
  obtain ⟨hx, hb, hml, hown, hts, hKn, hX, hbb2, hsz, hn0, hs0, hfr, hlo, hrc, hrs, hnm⟩ := hF9
  have g2 := g.2 hF hR a1 a2 H locs lsR hP hS hL
  rw [List.map_cons, zref (by omega)]
  have he := zws_get (b := b) (b0 := b0) (cy := cy) b1 b2
  rw [zce_r (n := ci) (e2.trans hkd)] at he
  refine va_alen hx hb hKn.1 hP (x - 2).toNat t0 he (zTY_at ht) (v := Int32.ofInt (c x (-2))) ?_ hd g2
  show Int32.ofNat (c x (-2)).toNat = _
  rw [← Int32.ofInt_eq_ofNat, show (((c x (-2)).toNat : Nat) : Int) = c x (-2) by omega]
theorem zs_sald (hd : decode cc pc = .ok (.iaload, 1)) : zSound tab own cc nL rt nm pc (zi_ald 99 0 (pc + 1)) := by
  intro D cy b b0 L xs l call p e R s m args below meth cd Q n0 s0 dl v c' hCall hbb ls st c k h hk w1 w2 w3 w4
  cases st with
  | nil => cases h
  | cons y st =>
  cases st with
  | nil => cases h
  | cons x st =>
  obtain ⟨e1, h⟩ := zc_of h
  obtain ⟨ty, y⟩ := y
  have e1 : ty = 0 := e1
  subst e1
  obtain ⟨e1, h⟩ := zc_of h
  obtain ⟨tx, x⟩ := x
  have e1 : tx = 2 := e1
  subst e1
  obtain ⟨e2, h⟩ := zi_of h
  have e2 : c x (-1) = 99 ∧ 0 ≤ y ∧ y < c x (-2) := e2
  obtain ⟨e2, e3, e4⟩ := e2
  have oy : zin32 y := (zokl_h w3).1 rfl
  have ex : x = 1 := by
    obtain ⟨g1, g2, g3, g4, g5, g6, -⟩ := w1
    by_cases q : c 0 0 ≤ x ∨ x < 0
    · rw [g3 x q] at e2; omega
    · by_cases q0 : x = 0
      · rw [q0] at e2; omega
      · by_cases q1 : x = 1
        · exact q1
        · have := g6 x (by omega) (by omega)
          unfold zkd at this; omega
  subst ex
  have eL := w1.2.2.2.2.2.2.2.2.1
  have ev := w1.2.2.2.2.2.2.2.2.2.2 y.toNat (by omega)
  rw [show ((y.toNat : Nat) : Int) = y by omega] at ev
  have g := hk _ _ _ _ h w1 w2 (zokl_c (zok0 (by show zin32 (c 1 y); rw [ev]; exact z32_in _)) (zokl_t (zokl_t w3))) w4
  refine ⟨g.1, fun hF hR a1 a2 H locs lsR hP hS hL => ?_⟩
  have hF9 := hF
  obtain ⟨hx, hb, hml, hown, hts, hKn, hX, hbb2, hsz, hn0, hs0, hfr, hlo, hrc, hrs, hnm⟩ := hF9
  have g2 := g.2 hF hR a1 a2 H locs lsR hP hS hL
  rw [List.map_cons, List.map_cons, zref (by decide)]
  rw [List.map_cons, show zV b b0 (0, c (2, (1 : Int)).2 (0, y).2) = .int (Int32.ofInt (c 1 y)) from rfl, ev, z32_of] at g2
  refine va_sld hx hb hX (by omega) (by show ¬ b0 ≤ b; omega) hS (i := Int32.ofInt y) (z32_vin oy e3 (by omega)) hd ?_
  rw [z32_clamp oy]
  exact g2
theorem zs_slen (hd : decode cc pc = .ok (.arraylength, 1)) : zSound tab own cc nL rt nm pc (zi_alen 99 (pc + 1)) := by
  intro D cy b b0 L xs l call p e R s m args below meth cd Q n0 s0 dl v c' hCall hbb ls st c k h hk w1 w2 w3 w4
  cases st with
  | nil => cases h
  | cons x st =>
  obtain ⟨e1, h⟩ := zc_of h
  obtain ⟨tx, x⟩ := x
  have e1 : tx = 2 := e1
  subst e1
  obtain ⟨e2, h⟩ := zi_of h
  have e2 : c x (-1) = 99 := e2
  have ex : x = 1 := by
    obtain ⟨g1, g2, g3, g4, g5, g6, -⟩ := w1
    by_cases q : c 0 0 ≤ x ∨ x < 0
    · rw [g3 x q] at e2; omega
    · by_cases q0 : x = 0
      · rw [q0] at e2; omega
      · by_cases q1 : x = 1
        · exact q1
        · have := g6 x (by omega) (by omega)
          unfold zkd at this; omega
  subst ex
  have eL := w1.2.2.2.2.2.2.2.2.1
  have eL2 := w1.2.2.2.2.2.2.2.2.2.1
  have g := hk _ _ _ _ h w1 w2 (zokl_c (zok0 (by show zin32 (c 1 (-2)); rw [eL]; exact ⟨by omega, by omega⟩)) (zokl_t w3)) w4
  refine ⟨g.1, fun hF hR a1 a2 H locs lsR hP hS hL => ?_⟩
  have hF9 := hF
  obtain ⟨hx, hb, hml, hown, hts, hKn, hX, hbb2, hsz, hn0, hs0, hfr, hlo, hrc, hrs, hnm⟩ := hF9
  have g2 := g.2 hF hR a1 a2 H locs lsR hP hS hL
  rw [List.map_cons, zref (by decide)]
  rw [List.map_cons, show zV b b0 (0, c (2, (1 : Int)).2 (-2)) = .int (Int32.ofInt (c 1 (-2))) from rfl, eL, Int32.ofInt_eq_ofNat] at g2
  exact va_slen (b := b) hx hb hX (by omega) (by show ¬ b0 ≤ b; omega) hS hd g2
theorem zs_iast (hd : decode cc pc = .ok (.iastore, 1)) : zSound tab own cc nL rt nm pc (zi_ast 100 0 (pc + 1)) := by
  intro D cy b b0 L xs l call p e R s m args below meth cd Q n0 s0 dl v c' hCall hbb ls st c k h hk w1 w2 w3 w4
  cases st with
  | nil => cases h
  | cons z st =>
  cases st with
  | nil => cases h
  | cons y st =>
  cases st with
  | nil => cases h
  | cons x st =>
  obtain ⟨e1, h⟩ := zc_of h
  obtain ⟨tz, z⟩ := z
  have e1 : tz = 0 := e1
  subst e1
  obtain ⟨e1, h⟩ := zc_of h
  obtain ⟨ty, y⟩ := y
  have e1 : ty = 0 := e1
  subst e1
  obtain ⟨e1, h⟩ := zc_of h
  obtain ⟨tx, x⟩ := x
  have e1 : tx = 2 := e1
  subst e1
  obtain ⟨e2, h⟩ := zi_of h
  have e2 : c x (-1) = 100 ∧ 0 ≤ y ∧ y < c x (-2) := e2
  obtain ⟨e2, e3, e4⟩ := e2
  have oy : zin32 y := (zokl_h (zokl_t w3)).1 rfl
  obtain ⟨b1, b2⟩ := zwf_a w1 (a := x) (Or.inr (Or.inl e2))
  have c00 : zup c x y z 0 0 = c 0 0 := zup_o (Or.inl (by omega))
  have c01 : zup c x y z 0 1 = c 0 1 := zup_o (Or.inl (by omega))
  have g := hk _ _ _ _ h (zwf_up w1 (Or.inr (Or.inl e2)) e3 (fun _ => ⟨fun _ => (zokl_h w3).1 rfl, fun q => by omega, fun q1 q2 => by omega⟩)) w2 (zokl_t (zokl_t (zokl_t w3))) w4
  rw [show zup c ((2 : Nat), x).2 ((0 : Nat), y).2 ((0 : Nat), z).2 = zup c x y z from rfl, c00, c01] at g
  refine ⟨g.1, fun hF hR a1 a2 H locs lsR hP hS hL => ?_⟩
  have hF9 := hF
  obtain ⟨hx, hb, hml, hown, hts, hKn, hX, hbb2, hsz, hn0, hs0, hfr, hlo, hrc, hrs, hnm⟩ := hF9
  obtain ⟨i1, i2, i3⟩ := zidx oy e3 e4
  rw [List.map_cons, List.map_cons, List.map_cons, zref (by omega)]
  have he := zws_get (b := b) (b0 := b0) (cy := cy) b1 b2
  rw [zce_100 e2] at he
  refine va_iast hx hb hKn.1 hP zws_D hS (x - 2).toNat 0 he (zTY_at rfl) i1 hd (fun H1 locs1 hP1 hD1 hS1 => ?_)
  refine g.2 hF hR a1 a2 H1 locs1 lsR ?_ hS1 hL
  rw [i2] at hP1
  rw [← zws_set (c := c) (c' := zup c x y z) b1 c00 (fun a h2 h3 => funext fun j => zup_o (Or.inl h3)) rfl]
  rw [zce_100 (c := zup c x y z x) (by rw [zup_o (Or.inr (by omega))]; exact e2), zup_o (Or.inr (by omega : (-2 : Int) ≠ y))]
  have ef : (fun j : Nat => Int32.ofInt (zup c x y z x (j : Int))) = upd (fun j : Nat => Int32.ofInt (c x (j : Int))) y.toNat (Int32.ofInt z) := by
    funext j
    unfold upd zup
    by_cases q : j = y.toNat
    · rw [if_pos q, if_pos ⟨rfl, by omega⟩]
    · rw [if_neg q, if_neg (by omega)]
  rw [ef]
  exact hP1
theorem zs_last (hd : decode cc pc = .ok (.lastore, 1)) : zSound tab own cc nL rt nm pc (zi_ast 101 1 (pc + 1)) := by
  intro D cy b b0 L xs l call p e R s m args below meth cd Q n0 s0 dl v c' hCall hbb ls st c k h hk w1 w2 w3 w4
  cases st with
  | nil => cases h
  | cons z st =>
  cases st with
  | nil => cases h
  | cons y st =>
  cases st with
  | nil => cases h
  | cons x st =>
  obtain ⟨e1, h⟩ := zc_of h
  obtain ⟨tz, z⟩ := z
  have e1 : tz = 1 := e1
  subst e1
  obtain ⟨e1, h⟩ := zc_of h
  obtain ⟨ty, y⟩ := y
  have e1 : ty = 0 := e1
  subst e1
  obtain ⟨e1, h⟩ := zc_of h
  obtain ⟨tx, x⟩ := x
  have e1 : tx = 2 := e1
  subst e1
  obtain ⟨e2, h⟩ := zi_of h
  have e2 : c x (-1) = 101 ∧ 0 ≤ y ∧ y < c x (-2) := e2
  obtain ⟨e2, e3, e4⟩ := e2
  have oy : zin32 y := (zokl_h (zokl_t w3)).1 rfl
  obtain ⟨b1, b2⟩ := zwf_a w1 (a := x) (Or.inr (Or.inr (Or.inl e2)))
  have c00 : zup c x y z 0 0 = c 0 0 := zup_o (Or.inl (by omega))
  have c01 : zup c x y z 0 1 = c 0 1 := zup_o (Or.inl (by omega))
  have g := hk _ _ _ _ h (zwf_up w1 (Or.inr (Or.inr (Or.inl e2))) e3 (fun _ => ⟨fun q => by omega, fun _ => (zokl_h w3).2 rfl, fun q1 q2 => by omega⟩)) w2 (zokl_t (zokl_t (zokl_t w3))) w4
  rw [show zup c ((2 : Nat), x).2 ((0 : Nat), y).2 ((1 : Nat), z).2 = zup c x y z from rfl, c00, c01] at g
  refine ⟨g.1, fun hF hR a1 a2 H locs lsR hP hS hL => ?_⟩
  have hF9 := hF
  obtain ⟨hx, hb, hml, hown, hts, hKn, hX, hbb2, hsz, hn0, hs0, hfr, hlo, hrc, hrs, hnm⟩ := hF9
  obtain ⟨i1, i2, i3⟩ := zidx oy e3 e4
  rw [List.map_cons, List.map_cons, List.map_cons, zref (by omega)]
  have he := zws_get (b := b) (b0 := b0) (cy := cy) b1 b2
  rw [zce_101 e2] at he
  refine va_last hx hb hKn.1 hP zws_D hS (x - 2).toNat 1 he (zTY_at rfl) i1 hd (fun H1 locs1 hP1 hD1 hS1 => ?_)
  refine g.2 hF hR a1 a2 H1 locs1 lsR ?_ hS1 hL
  rw [i2] at hP1
  rw [← zws_set (c := c) (c' := zup c x y z) b1 c00 (fun a h2 h3 => funext fun j => zup_o (Or.inl h3)) rfl]
  rw [zce_101 (c := zup c x y z x) (by rw [zup_o (Or.inr (by omega))]; exact e2), zup_o (Or.inr (by omega : (-2 : Int) ≠ y))]
  have ef : (fun j : Nat => Int64.ofInt (zup c x y z x (j : Int))) = vp_updL (fun j : Nat => Int64.ofInt (c x (j : Int))) y.toNat (Int64.ofInt z) := by
    funext j
    unfold vp_updL zup
    by_cases q : j = y.toNat
    · rw [if_pos q, if_pos ⟨rfl, by omega⟩]
    · rw [if_neg q, if_neg (by omega)]
  rw [ef]
  exact hP1
theorem zs_zast (hd : decode cc pc = .ok (.bastore, 1)) : zSound tab own cc nL rt nm pc (zi_astZ (pc + 1)) := by
  intro D cy b b0 L xs l call p e R s m args below meth cd Q n0 s0 dl v c' hCall hbb ls st c k h hk w1 w2 w3 w4
  cases st with
  | nil => cases h
  | cons z st =>
  cases st with
  | nil => cases h
  | cons y st =>
  cases st with
  | nil => cases h
  | cons x st =>
  obtain ⟨e1, h⟩ := zc_of h
  obtain ⟨tz, z⟩ := z
  have e1 : tz = 0 := e1
  subst e1
  obtain ⟨e1, h⟩ := zc_of h
  obtain ⟨ty, y⟩ := y
  have e1 : ty = 0 := e1
  subst e1
  obtain ⟨e1, h⟩ := zc_of h
  obtain ⟨tx, x⟩ := x
  have e1 : tx = 2 := e1
  subst e1
  obtain ⟨e2, h⟩ := zi_of h
  have e2 : c x (-1) = 102 ∧ 0 ≤ y ∧ y < c x (-2) := e2
  obtain ⟨e2, e3, e4⟩ := e2
  obtain ⟨e5, h⟩ := zi_of h
  have e5 : z = 0 ∨ z = 1 := e5
  have oy : zin32 y := (zokl_h (zokl_t w3)).1 rfl
  obtain ⟨b1, b2⟩ := zwf_a w1 (a := x) (Or.inr (Or.inr (Or.inr (Or.inl e2))))
  have c00 : zup c x y z 0 0 = c 0 0 := zup_o (Or.inl (by omega))
  have c01 : zup c x y z 0 1 = c 0 1 := zup_o (Or.inl (by omega))
  have g := hk _ _ _ _ h (zwf_up w1 (Or.inr (Or.inr (Or.inr (Or.inl e2)))) e3 (fun _ => ⟨fun _ => (zokl_h w3).1 rfl, fun q => by omega, fun q1 q2 => by omega⟩)) w2 (zokl_t (zokl_t (zokl_t w3))) w4
  rw [show zup c ((2 : Nat), x).2 ((0 : Nat), y).2 ((0 : Nat), z).2 = zup c x y z from rfl, c00, c01] at g
  refine ⟨g.1, fun hF hR a1 a2 H locs lsR hP hS hL => ?_⟩
  have hF9 := hF
  obtain ⟨hx, hb, hml, hown, hts, hKn, hX, hbb2, hsz, hn0, hs0, hfr, hlo, hrc, hrs, hnm⟩ := hF9
  obtain ⟨i1, i2, i3⟩ := zidx oy e3 e4
  rw [List.map_cons, List.map_cons, List.map_cons, zref (by omega)]
  have he := zws_get (b := b) (b0 := b0) (cy := cy) b1 b2
  rw [zce_102 e2] at he
  refine va_zast hx hb hKn.1 hP zws_D hS (x - 2).toNat 2 he (zTY_at rfl) i1 hd (fun H1 locs1 hP1 hD1 hS1 => ?_)
  refine g.2 hF hR a1 a2 H1 locs1 lsR ?_ hS1 hL
  rw [i2] at hP1
  rw [← zws_set (c := c) (c' := zup c x y z) b1 c00 (fun a h2 h3 => funext fun j => zup_o (Or.inl h3)) rfl]
  rw [zce_102 (c := zup c x y z x) (by rw [zup_o (Or.inr (by omega))]; exact e2), zup_o (Or.inr (by omega : (-2 : Int) ≠ y))]
  have en : vp_nar .boolean (Int32.ofInt z) = Int32.ofInt z := by rcases e5 with rfl | rfl <;> rfl
  have ef : (fun j : Nat => Int32.ofInt (zup c x y z x (j : Int))) = upd (fun j : Nat => Int32.ofInt (c x (j : Int))) y.toNat (vp_nar .boolean (Int32.ofInt z)) := by
    funext j
    rw [en]
    unfold upd zup
    by_cases q : j = y.toNat
    · rw [if_pos q, if_pos ⟨rfl, by omega⟩]
    · rw [if_neg q, if_neg (by omega)]
  rw [ef]
  exact hP1
theorem zs_aast {ci t0 : Nat} {C : String} {T : u_T} {N : Nat} {ty : Nat → FieldType} {kd : Int} (hC : zCI ci C T N ty) (hd : decode cc pc = .ok (.aastore, 1)) (hkd : kd = (ci : Int) + 1) (ht : zTY[t0]? = some (3 + ci, .object C)) : zSound tab own cc nL rt nm pc (zi_astR kd (pc + 1)) := by
  intro D cy b b0 L xs l call p e R s m args below meth cd Q n0 s0 dl v c' hCall hbb ls st c k h hk w1 w2 w3 w4
  cases st with
  | nil => cases h
  | cons z st =>
  cases st with
  | nil => cases h
  | cons y st =>
  cases st with
  | nil => cases h
  | cons x st =>
  obtain ⟨e1, h⟩ := zc_of h
  obtain ⟨tz, z⟩ := z
  have e1 : tz = 2 := e1
  subst e1
  obtain ⟨e1, h⟩ := zc_of h
  obtain ⟨ty, y⟩ := y
  have e1 : ty = 0 := e1
  subst e1
  obtain ⟨e1, h⟩ := zc_of h
  obtain ⟨tx, x⟩ := x
  have e1 : tx = 2 := e1
  subst e1
  obtain ⟨e2, h⟩ := zi_of h
  have e2 : c x (-1) = 109 + kd ∧ 0 ≤ y ∧ y < c x (-2) := e2
  obtain ⟨e2, e3, e4⟩ := e2
  obtain ⟨e5, h⟩ := zi_of h
  have e5 : c z (-1) = kd := e5
  have h12 := hC.2.1
  have e2 : c x (-1) = 110 + (ci : Int) := by omega
  have oy : zin32 y := (zokl_h (zokl_t w3)).1 rfl
  have hkx : zkd (c x (-1)) := Or.inr (Or.inr (Or.inr (Or.inr (by omega))))
  obtain ⟨b1, b2⟩ := zwf_a w1 (a := x) hkx
  have hz0 : c z (-1) = (ci : Int) + 1 := e5.trans hkd
  obtain ⟨d1, d2⟩ := zwf_a w1 (a := z) (zCI_kd hC hz0)
  have c00 : zup c x y z 0 0 = c 0 0 := zup_o (Or.inl (by omega))
  have c01 : zup c x y z 0 1 = c 0 1 := zup_o (Or.inl (by omega))
  have g := hk _ _ _ _ h (zwf_up w1 hkx e3 (fun _ => ⟨fun q => by omega, fun q => by omega, fun q1 q2 => by omega⟩)) w2 (zokl_t (zokl_t (zokl_t w3))) w4
  rw [show zup c ((2 : Nat), x).2 ((0 : Nat), y).2 ((2 : Nat), z).2 = zup c x y z from rfl, c00, c01] at g
  refine ⟨g.1, fun hF hR a1 a2 H locs lsR hP hS hL => ?_⟩
  have hF9 := hF
  obtain ⟨hx, hb, hml, hown, hts, hKn, hX, hbb2, hsz, hn0, hs0, hfr, hlo, hrc, hrs, hnm⟩ := hF9
  obtain ⟨i1, i2, i3⟩ := zidx oy e3 e4
  rw [List.map_cons, List.map_cons, List.map_cons, zref (b := b) (b0 := b0) (x := x) (by omega), zref (b := b) (b0 := b0) (x := z) (by omega)]
  have he := zws_get (b := b) (b0 := b0) (cy := cy) b1 b2
  rw [zce_r (n := ci) e2] at he
  refine va_astq (r := (C, T, N)) hx hb hKn.1 hP zws_D hS (x - 2).toNat t0 (z - 2).toNat ci he (zTY_at ht) (zCI_he hC d1 d2 hz0) hC.1 i1 hd (fun H1 locs1 hP1 hD1 hS1 => ?_)
  refine g.2 hF hR a1 a2 H1 locs1 lsR ?_ hS1 hL
  rw [i2] at hP1
  rw [← zws_set (c := c) (c' := zup c x y z) b1 c00 (fun a h2 h3 => funext fun j => zup_o (Or.inl h3)) rfl]
  rw [zce_r (n := ci) (c := zup c x y z x) (by rw [zup_o (Or.inr (by omega))]; exact e2), zup_o (Or.inr (by omega : (-2 : Int) ≠ y))]
  have ef : (fun j : Nat => zrf b b0 (zup c x y z x (j : Int))) = va_up (fun j : Nat => zrf b b0 (c x (j : Int))) y.toNat (some (zro b b0 z)) := by
    funext j
    unfold va_up zup
    by_cases q : j = y.toNat
    · rw [if_pos q, if_pos ⟨rfl, by omega⟩]
      unfold zrf; rw [if_neg (by omega)]
    · rw [if_neg q, if_neg (by omega)]
  rw [ef]
  exact hP1
/-- the address of a new cell -/
theorem znew_q {D : va_G} {cy : Nat → ClassId} {b b0 q : Nat} {c : zC} {e : va_E} (hD : va_D (zA b0) (zws b b0 cy c ++ [(q, e)])) (hn : 2 ≤ c 0 0) (hq : q < b0 + (c 0 0 - 2).toNat + 1) : q = b0 + (c 0 0 - 2).toNat := by
  have hlen : (zws b b0 cy c).length = (c 0 0 - 2).toNat := by unfold zws; simp
  have hl : (zws b b0 cy c ++ [(q, e)])[(zws b b0 cy c).length]? = some (q, e) := by simp
  have h1 : b0 ≤ q := hD.2 _ _ hl
  by_cases h : q < b0 + (c 0 0 - 2).toNat
  · have g := zws_get (b := b) (b0 := b0) (cy := cy) (c := c) (a := (q : Int) - b0 + 2) (by omega) (by omega)
    have g2 : (zws b b0 cy c ++ [(q, e)])[((q : Int) - b0 + 2 - 2).toNat]? = some (zro b b0 ((q : Int) - b0 + 2), zce b b0 cy (c ((q : Int) - b0 + 2))) := by
      rw [List.getElem?_append_left (by omega)]; exact g
    have := hD.1 _ _ _ _ g2 hl (by show zro b b0 _ = q; rw [zro_2 (by omega)]; omega)
    omega
  · omega
theorem zs_new {ci index : Nat} {C : String} {T : u_T} {N : Nat} {ty : Nat → FieldType} {kd n : Int} (hC : zCI ci C T N ty) (hd : decode cc pc = .ok (.new index, 3)) (hkd : kd = (ci : Int) + 1) (hnN : n = (N : Int)) (hN : N ≤ 20000) (hnf : ∀ j, j < N → ty j ≠ .float ∧ ty j ≠ .double) (h1 : Cond.classLink own index C ∈ zWS) (h2 : Cond.instantiable C N ∈ zWS) (h3 : Cond.initialized C ∈ zWS) : zSound tab own cc nL rt nm pc (zi_new kd n (pc + 3)) := by
  intro D cy b b0 L xs l call p e R s m args below meth cd Q n0 s0 dl v c' hCall hbb ls st c k h hk w1 w2 w3 w4
  subst hnN
  obtain ⟨n1, n2, n3, n4⟩ := zwf_new w1 (zCI_kd hC hkd) (n := (N : Int)) (Int.natCast_nonneg N) (by omega)
  have w0 := w1.1
  have w01 := w1.2.1
  have g := hk _ _ _ _ h n1 w2 (zokl_c zok2 w3) w4
  rw [n2, n3] at g
  refine ⟨⟨g.1.1, g.1.2.1, by omega, by omega⟩, fun hF hR a1 a2 H locs lsR hP hS hL => ?_⟩
  have hF9 := hF
  obtain ⟨hx, hb, hml, hown, hts, hKn, hX, hbb2, hsz, hn0, hs0, hfr, hlo, hrc, hrs, hnm⟩ := hF9
  have m1 := g.1.2.2.1
  have m2 := g.1.2.2.2
  refine va_new (fs := zfl (zV b b0) (fun _ => 0) 0 (zFT ci)) hx hb hts hC.2.2.1 ty hC.2.2.2.1 hown (hts _ h1) (hts _ h2) (hts _ h3) hKn.1 hP zws_D hS (fun q h => by show b0 ≤ q; omega) hC.1 (fun j hj => ?_) (by omega) (by omega) hd (fun q H1 hP1 hD1 hS1 => ?_)
  · unfold vp_V
    rw [List.getD_eq_getElem?_getD, zfl_get, hC.2.2.2.2.2.2 j hj]
    simp only [Option.map_some, Option.getD_some]
    have hq := hnf j hj
    revert hq
    cases ty j <;> first | (intro _; rfl) | (intro q; exact absurd rfl q.1) | (intro q; exact absurd rfl q.2)
  · rw [show (c 0 0 - n0).toNat + 1 = (c 0 0 + 1 - n0).toNat by omega, show (c 0 1 - s0).toNat + N = (c 0 1 + (N : Int) - s0).toNat by omega]
    refine zW_size (fun hu => ?_)
    have hq : q < H1.size := (hP1 (zws b b0 cy c).length (q, .inr (ci, zfl (zV b b0) (fun _ => 0) 0 (zFT ci))) (by simp)).lt
    have eq := znew_q (D := D) hD1 w0 (by omega)
    subst eq
    rw [← zro_2 (b := b) w0, ← zref (b := b) (b0 := b0) (x := c 0 0) (by omega)]
    refine g.2 hF hR (by omega) (by omega) H1 locs lsR ?_ hS1 hL
    rw [zws_new w0 n2 n4]
    have : zce b b0 cy (znew c kd (N : Int) (c 0 0)) = .inr (ci, zfl (zV b b0) (fun _ => 0) 0 (zFT ci)) := by
      rw [zce_o (n := ci) (by unfold znew; rw [if_pos rfl, if_pos rfl]; exact hkd) hC.2.1]
      congr 3
      funext k
      unfold znew
      rw [if_pos rfl, if_neg (by omega), if_neg (by omega)]
    rw [this]
    exact hP1
theorem zs_inewa (hd : decode cc pc = .ok (.newarray .int, 2)) (hw : Cond.arrayClass .int ∈ zWS) : zSound tab own cc nL rt nm pc (zi_newa 100 (pc + 2)) := by
  intro D cy b b0 L xs l call p e R s m args below meth cd Q n0 s0 dl v c' hCall hbb ls st c k h hk w1 w2 w3 w4
  cases st with
  | nil => cases h
  | cons x st =>
  obtain ⟨e1, h⟩ := zc_of h
  obtain ⟨tx, x⟩ := x
  have e1 : tx = 0 := e1
  subst e1
  obtain ⟨e2, h⟩ := zi_of h
  have e2 : 0 ≤ x ∧ x ≤ 20000 := e2
  have ox : zin32 x := (zokl_h w3).1 rfl
  obtain ⟨n1, n2, n3, n4⟩ := zwf_new w1 (kd := 100) (by unfold zkd; omega) (n := x) e2.1 e2.2
  have w0 := w1.1
  have w01 := w1.2.1
  have g := hk _ _ _ _ h n1 w2 (zokl_c zok2 (zokl_t w3)) w4
  rw [show znew c 100 ((0 : Nat), x).2 = znew c 100 x from rfl, n2, n3] at g
  refine ⟨⟨g.1.1, g.1.2.1, by omega, by omega⟩, fun hF hR a1 a2 H locs lsR hP hS hL => ?_⟩
  have hF9 := hF
  obtain ⟨hx, hb, hml, hown, hts, hKn, hX, hbb2, hsz, hn0, hs0, hfr, hlo, hrc, hrs, hnm⟩ := hF9
  have m1 := g.1.2.2.1
  have m2 := g.1.2.2.2
  refine va_newa (N' := x.toNat) (a0 := (x.toNat, .inl (fun _ => 0))) (atype := .int) (ty := .int) hx hb (hts _ hw) rfl hKn.1 hP zws_D hS (fun q h => by show b0 ≤ q; omega) (n := Int32.ofInt x) (fun _ => rfl) (by rw [z32_lt0 ox]; omega) (z32_clamp ox) (by show x.toNat * _ ≤ _; simp only [componentBytes]; omega) (by omega) (by omega) hd (fun q cA H1 hK1 hP1 hD1 hS1 => ?_)
  have ecA : cA = cy 0 := by
    have q1 : s.vm.findClass ("[" ++ FieldType.toString .int) = some cA := (hK1.2 (zTY.map fun q => (cy q.1, q.2)).length (cA, .int) (by simp)).2
    have q2 : s.vm.findClass ("[" ++ FieldType.toString .int) = some (cy 0) := (hKn.1.2 0 _ (zTY_at rfl)).2
    exact Option.some.inj (q1.symm.trans q2)
  subst ecA
  rw [show (c 0 0 - n0).toNat + 1 = (c 0 0 + 1 - n0).toNat by omega, show (c 0 1 - s0).toNat + x.toNat = (c 0 1 + x - s0).toNat by omega]
  refine zW_size (fun hu => ?_)
  have hq : q < H1.size := (hP1 (zws b b0 cy c).length (q, .inl (cy 0, x.toNat, .inl (fun _ => 0))) (by simp)).lt
  have eq := znew_q (D := D) hD1 w0 (by omega)
  subst eq
  rw [← zro_2 (b := b) w0, ← zref (b := b) (b0 := b0) (x := c 0 0) (by omega)]
  refine g.2 hF hR (by omega) (by omega) H1 locs lsR ?_ hS1 hL
  rw [zws_new w0 n2 n4]
  have : zce b b0 cy (znew c 100 x (c 0 0)) = .inl (cy 0, x.toNat, .inl (fun _ => 0)) := by
    rw [zce_100 (by unfold znew; rw [if_pos rfl, if_pos rfl])]
    have e1 : znew c 100 x (c 0 0) (-2) = x := by unfold znew; rw [if_pos rfl, if_neg (by decide), if_pos rfl]
    have e3 : ∀ k : Nat, znew c 100 x (c 0 0) (k : Int) = 0 := fun k => by unfold znew; rw [if_pos rfl, if_neg (by omega), if_neg (by omega)]
    rw [e1]
    simp only [e3]
    rfl
  rw [this]
  exact hP1
theorem zs_lnewa (hd : decode cc pc = .ok (.newarray .long, 2)) (hw : Cond.arrayClass .long ∈ zWS) : zSound tab own cc nL rt nm pc (zi_newa 101 (pc + 2)) := by
  intro D cy b b0 L xs l call p e R s m args below meth cd Q n0 s0 dl v c' hCall hbb ls st c k h hk w1 w2 w3 w4
  cases st with
  | nil => cases h
  | cons x st =>
  obtain ⟨e1, h⟩ := zc_of h
  obtain ⟨tx, x⟩ := x
  have e1 : tx = 0 := e1
  subst e1
  obtain ⟨e2, h⟩ := zi_of h
  have e2 : 0 ≤ x ∧ x ≤ 20000 := e2
  have ox : zin32 x := (zokl_h w3).1 rfl
  obtain ⟨n1, n2, n3, n4⟩ := zwf_new w1 (kd := 101) (by unfold zkd; omega) (n := x) e2.1 e2.2
  have w0 := w1.1
  have w01 := w1.2.1
  have g := hk _ _ _ _ h n1 w2 (zokl_c zok2 (zokl_t w3)) w4
  rw [show znew c 101 ((0 : Nat), x).2 = znew c 101 x from rfl, n2, n3] at g
  refine ⟨⟨g.1.1, g.1.2.1, by omega, by omega⟩, fun hF hR a1 a2 H locs lsR hP hS hL => ?_⟩
  have hF9 := hF
  obtain ⟨hx, hb, hml, hown, hts, hKn, hX, hbb2, hsz, hn0, hs0, hfr, hlo, hrc, hrs, hnm⟩ := hF9
  have m1 := g.1.2.2.1
  have m2 := g.1.2.2.2
  refine va_newa (N' := x.toNat) (a0 := (x.toNat, .inr (.inl (fun _ => 0)))) (atype := .long) (ty := .long) hx hb (hts _ hw) rfl hKn.1 hP zws_D hS (fun q h => by show b0 ≤ q; omega) (n := Int32.ofInt x) (fun _ => rfl) (by rw [z32_lt0 ox]; omega) (z32_clamp ox) (by show x.toNat * _ ≤ _; simp only [componentBytes]; omega) (by omega) (by omega) hd (fun q cA H1 hK1 hP1 hD1 hS1 => ?_)
  have ecA : cA = cy 1 := by
    have q1 : s.vm.findClass ("[" ++ FieldType.toString .long) = some cA := (hK1.2 (zTY.map fun q => (cy q.1, q.2)).length (cA, .long) (by simp)).2
    have q2 : s.vm.findClass ("[" ++ FieldType.toString .long) = some (cy 1) := (hKn.1.2 1 _ (zTY_at rfl)).2
    exact Option.some.inj (q1.symm.trans q2)
  subst ecA
  rw [show (c 0 0 - n0).toNat + 1 = (c 0 0 + 1 - n0).toNat by omega, show (c 0 1 - s0).toNat + x.toNat = (c 0 1 + x - s0).toNat by omega]
  refine zW_size (fun hu => ?_)
  have hq : q < H1.size := (hP1 (zws b b0 cy c).length (q, .inl (cy 1, x.toNat, .inr (.inl (fun _ => 0)))) (by simp)).lt
  have eq := znew_q (D := D) hD1 w0 (by omega)
  subst eq
  rw [← zro_2 (b := b) w0, ← zref (b := b) (b0 := b0) (x := c 0 0) (by omega)]
  refine g.2 hF hR (by omega) (by omega) H1 locs lsR ?_ hS1 hL
  rw [zws_new w0 n2 n4]
  have : zce b b0 cy (znew c 101 x (c 0 0)) = .inl (cy 1, x.toNat, .inr (.inl (fun _ => 0))) := by
    rw [zce_101 (by unfold znew; rw [if_pos rfl, if_pos rfl])]
    have e1 : znew c 101 x (c 0 0) (-2) = x := by unfold znew; rw [if_pos rfl, if_neg (by decide), if_pos rfl]
    have e3 : ∀ k : Nat, znew c 101 x (c 0 0) (k : Int) = 0 := fun k => by unfold znew; rw [if_pos rfl, if_neg (by omega), if_neg (by omega)]
    rw [e1]
    simp only [e3]
    rfl
  rw [this]
  exact hP1
theorem zs_znewa (hd : decode cc pc = .ok (.newarray .boolean, 2)) (hw : Cond.arrayClass .boolean ∈ zWS) : zSound tab own cc nL rt nm pc (zi_newa 102 (pc + 2)) := by
  intro D cy b b0 L xs l call p e R s m args below meth cd Q n0 s0 dl v c' hCall hbb ls st c k h hk w1 w2 w3 w4
  cases st with
  | nil => cases h
  | cons x st =>
  obtain ⟨e1, h⟩ := zc_of h
  obtain ⟨tx, x⟩ := x
  have e1 : tx = 0 := e1
  subst e1
  obtain ⟨e2, h⟩ := zi_of h
  have e2 : 0 ≤ x ∧ x ≤ 20000 := e2
  have ox : zin32 x := (zokl_h w3).1 rfl
  obtain ⟨n1, n2, n3, n4⟩ := zwf_new w1 (kd := 102) (by unfold zkd; omega) (n := x) e2.1 e2.2
  have w0 := w1.1
  have w01 := w1.2.1
  have g := hk _ _ _ _ h n1 w2 (zokl_c zok2 (zokl_t w3)) w4
  rw [show znew c 102 ((0 : Nat), x).2 = znew c 102 x from rfl, n2, n3] at g
  refine ⟨⟨g.1.1, g.1.2.1, by omega, by omega⟩, fun hF hR a1 a2 H locs lsR hP hS hL => ?_⟩
  have hF9 := hF
  obtain ⟨hx, hb, hml, hown, hts, hKn, hX, hbb2, hsz, hn0, hs0, hfr, hlo, hrc, hrs, hnm⟩ := hF9
  have m1 := g.1.2.2.1
  have m2 := g.1.2.2.2
  refine va_newa (N' := x.toNat) (a0 := (x.toNat, .inl (fun _ => 0))) (atype := .boolean) (ty := .boolean) hx hb (hts _ hw) rfl hKn.1 hP zws_D hS (fun q h => by show b0 ≤ q; omega) (n := Int32.ofInt x) (fun _ => rfl) (by rw [z32_lt0 ox]; omega) (z32_clamp ox) (by show x.toNat * _ ≤ _; simp only [componentBytes]; omega) (by omega) (by omega) hd (fun q cA H1 hK1 hP1 hD1 hS1 => ?_)
  have ecA : cA = cy 2 := by
    have q1 : s.vm.findClass ("[" ++ FieldType.toString .boolean) = some cA := (hK1.2 (zTY.map fun q => (cy q.1, q.2)).length (cA, .boolean) (by simp)).2
    have q2 : s.vm.findClass ("[" ++ FieldType.toString .boolean) = some (cy 2) := (hKn.1.2 2 _ (zTY_at rfl)).2
    exact Option.some.inj (q1.symm.trans q2)
  subst ecA
  rw [show (c 0 0 - n0).toNat + 1 = (c 0 0 + 1 - n0).toNat by omega, show (c 0 1 - s0).toNat + x.toNat = (c 0 1 + x - s0).toNat by omega]
  refine zW_size (fun hu => ?_)
  have hq : q < H1.size := (hP1 (zws b b0 cy c).length (q, .inl (cy 2, x.toNat, .inl (fun _ => 0))) (by simp)).lt
  have eq := znew_q (D := D) hD1 w0 (by omega)
  subst eq
  rw [← zro_2 (b := b) w0, ← zref (b := b) (b0 := b0) (x := c 0 0) (by omega)]
  refine g.2 hF hR (by omega) (by omega) H1 locs lsR ?_ hS1 hL
  rw [zws_new w0 n2 n4]
  have : zce b b0 cy (znew c 102 x (c 0 0)) = .inl (cy 2, x.toNat, .inl (fun _ => 0)) := by
    rw [zce_102 (by unfold znew; rw [if_pos rfl, if_pos rfl])]
    have e1 : znew c 102 x (c 0 0) (-2) = x := by unfold znew; rw [if_pos rfl, if_neg (by decide), if_pos rfl]
    have e3 : ∀ k : Nat, znew c 102 x (c 0 0) (k : Int) = 0 := fun k => by unfold znew; rw [if_pos rfl, if_neg (by omega), if_neg (by omega)]
    rw [e1]
    simp only [e3]
    rfl
  rw [this]
  exact hP1
theorem zs_anew {ci index t0 : Nat} {C : String} {kd : Int} (hd : decode cc pc = .ok (.anewarray index, 3)) (hci : ci < 12) (hkd : kd = 110 + (ci : Int)) (h1 : Cond.classLink own index C ∈ zWS) (hao : C ∈ zAO) (ht : zTY[t0]? = some (3 + ci, .object C)) : zSound tab own cc nL rt nm pc (zi_newa kd (pc + 3)) := by
  intro D cy b b0 L xs l call p e R s m args below meth cd Q n0 s0 dl v c' hCall hbb ls st c k h hk w1 w2 w3 w4
  cases st with
  | nil => cases h
  | cons x st =>
  obtain ⟨e1, h⟩ := zc_of h
  obtain ⟨tx, x⟩ := x
  have e1 : tx = 0 := e1
  subst e1
  obtain ⟨e2, h⟩ := zi_of h
  have e2 : 0 ≤ x ∧ x ≤ 20000 := e2
  have ox : zin32 x := (zokl_h w3).1 rfl
  have hkd2 : zkd kd := Or.inr (Or.inr (Or.inr (Or.inr (by omega))))
  obtain ⟨n1, n2, n3, n4⟩ := zwf_new w1 hkd2 (n := x) e2.1 e2.2
  have w0 := w1.1
  have w01 := w1.2.1
  have g := hk _ _ _ _ h n1 w2 (zokl_c zok2 (zokl_t w3)) w4
  rw [show znew c kd ((0 : Nat), x).2 = znew c kd x from rfl, n2, n3] at g
  refine ⟨⟨g.1.1, g.1.2.1, by omega, by omega⟩, fun hF hR a1 a2 H locs lsR hP hS hL => ?_⟩
  have hF9 := hF
  obtain ⟨hx, hb, hml, hown, hts, hKn, hX, hbb2, hsz, hn0, hs0, hfr, hlo, hrc, hrs, hnm⟩ := hF9
  have m1 := g.1.2.2.1
  have m2 := g.1.2.2.2
  refine va_newq (N' := x.toNat) (C := C) hx hb hown (hts _ h1) (hKn.2.2 C hao) hKn.1 hP zws_D hS (fun q h => by show b0 ≤ q; omega) (n := Int32.ofInt x) (by rw [z32_lt0 ox]; omega) (z32_clamp ox) (by omega) (by omega) (by omega) hd (fun q cA H1 hK1 hP1 hD1 hS1 => ?_)
  have ecA : cA = cy (3 + ci) := by
    have q1 := (hK1.2 (zTY.map fun q => (cy q.1, q.2)).length (cA, .object C) (by simp)).2
    have q2 := (hKn.1.2 t0 _ (zTY_at ht)).2
    obtain ⟨_, _, _, _, _, q1⟩ := q1
    obtain ⟨_, _, _, _, _, q2⟩ := q2
    exact Option.some.inj (q1.symm.trans q2)
  subst ecA
  rw [show (c 0 0 - n0).toNat + 1 = (c 0 0 + 1 - n0).toNat by omega, show (c 0 1 - s0).toNat + x.toNat = (c 0 1 + x - s0).toNat by omega]
  refine zW_size (fun hu => ?_)
  have hq : q < H1.size := (hP1 (zws b b0 cy c).length (q, .inl (cy (3 + ci), x.toNat, .inr (.inr (.inr (.inr (fun _ => none)))))) (by simp)).lt
  have eq := znew_q (D := D) hD1 w0 (by omega)
  subst eq
  rw [← zro_2 (b := b) w0, ← zref (b := b) (b0 := b0) (x := c 0 0) (by omega)]
  refine g.2 hF hR (by omega) (by omega) H1 locs lsR ?_ hS1 hL
  rw [zws_new w0 n2 n4]
  have : zce b b0 cy (znew c kd x (c 0 0)) = .inl (cy (3 + ci), x.toNat, .inr (.inr (.inr (.inr (fun _ => none))))) := by
    rw [zce_r (n := ci) (by unfold znew; rw [if_pos rfl, if_pos rfl]; exact hkd)]
    have e1 : znew c kd x (c 0 0) (-2) = x := by unfold znew; rw [if_pos rfl, if_neg (by decide), if_pos rfl]
    have e3 : ∀ k : Nat, znew c kd x (c 0 0) (k : Int) = 0 := fun k => by unfold znew; rw [if_pos rfl, if_neg (by omega), if_neg (by omega)]
    rw [e1]
    simp only [e3]
    rfl
  rw [this]
  exact hP1
theorem zs_max {index : Nat} (hd : decode cc pc = .ok (.invokestatic index, 3)) (h1 : Cond.methodLink own index Lib.Math.max.name ∈ zWS) (h2 : Cond.static Lib.Math.max.name ∈ zWS) (h3 : Cond.initialized "java/lang/Math" ∈ zWS) (h4 : Cond.code Lib.Math.max.name Lib.Math.max.code 2 (some .int) ∈ zWS) : zSound tab own cc nL rt nm pc (zi_minmax zmax (pc + 3)) := by
  intro D cy b b0 L xs l call p e R s m args below meth cd Q n0 s0 dl v c' hCall hbb ls st c k h hk w1 w2 w3 w4
  cases st with
  | nil => cases h
  | cons y st =>
  cases st with
  | nil => cases h
  | cons x st =>
  obtain ⟨e1, h⟩ := zc_of h
  obtain ⟨ty, y⟩ := y
  have e1 : ty = 0 := e1
  subst e1
  obtain ⟨e1, h⟩ := zc_of h
  obtain ⟨tx, x⟩ := x
  have e1 : tx = 0 := e1
  subst e1
  obtain ⟨e2, h⟩ := zc_le h
  have oy : zin32 y := (zokl_h w3).1 rfl
  have ox : zin32 x := (zokl_h (zokl_t w3)).1 rfl
  have g := hk _ _ _ _ h w1 w2 (zokl_c (zok0 (by show zin32 (zmax x y); unfold zmax; split <;> assumption)) (zokl_t (zokl_t w3))) w4
  refine ⟨g.1, fun hF hR a1 a2 H locs lsR hP hS hL => ?_⟩
  have hF9 := hF
  obtain ⟨hx, hb, hml, hown, hts, hKn, hX, hbb2, hsz, hn0, hs0, hfr, hlo, hrc, hrs, hnm⟩ := hF9
  have m1 := g.1.2.2.1
  have m2 := g.1.2.2.2
  refine va_mmax hx hb (by rw [hml, hL.1]) hown (hts _ h1) (hts _ h2) (hts _ h3) (hts _ h4) (by omega) (by rw [zcat_eq]; omega) (by omega) (by omega) (x := Int32.ofInt x) (y := Int32.ofInt y) hd ?_
  have g2 := g.2 hF hR a1 a2 H locs lsR hP hS hL
  rw [List.map_cons, show zV b b0 (0, zmax (0, x).2 (0, y).2) = .int (Int32.ofInt (zmax x y)) from rfl] at g2
  have e5 : (if Int32.ofInt x < Int32.ofInt y then Int32.ofInt y else Int32.ofInt x) = Int32.ofInt (zmax x y) := by
    unfold zmax
    by_cases q : x < y
    · rw [if_pos q, if_pos ((z32_lt ox oy).mpr q)]
    · rw [if_neg q, if_neg (fun z => q ((z32_lt ox oy).mp z))]
  rw [e5]; exact g2
theorem zs_min {index : Nat} (hd : decode cc pc = .ok (.invokestatic index, 3)) (h1 : Cond.methodLink own index Lib.Math.min.name ∈ zWS) (h2 : Cond.static Lib.Math.min.name ∈ zWS) (h3 : Cond.initialized "java/lang/Math" ∈ zWS) (h4 : Cond.code Lib.Math.min.name Lib.Math.min.code 2 (some .int) ∈ zWS) : zSound tab own cc nL rt nm pc (zi_minmax zmin (pc + 3)) := by
  intro D cy b b0 L xs l call p e R s m args below meth cd Q n0 s0 dl v c' hCall hbb ls st c k h hk w1 w2 w3 w4
  cases st with
  | nil => cases h
  | cons y st =>
  cases st with
  | nil => cases h
  | cons x st =>
  obtain ⟨e1, h⟩ := zc_of h
  obtain ⟨ty, y⟩ := y
  have e1 : ty = 0 := e1
  subst e1
  obtain ⟨e1, h⟩ := zc_of h
  obtain ⟨tx, x⟩ := x
  have e1 : tx = 0 := e1
  subst e1
  obtain ⟨e2, h⟩ := zc_le h
  have oy : zin32 y := (zokl_h w3).1 rfl
  have ox : zin32 x := (zokl_h (zokl_t w3)).1 rfl
  have g := hk _ _ _ _ h w1 w2 (zokl_c (zok0 (by show zin32 (zmin x y); unfold zmin; split <;> assumption)) (zokl_t (zokl_t w3))) w4
  refine ⟨g.1, fun hF hR a1 a2 H locs lsR hP hS hL => ?_⟩
  have hF9 := hF
  obtain ⟨hx, hb, hml, hown, hts, hKn, hX, hbb2, hsz, hn0, hs0, hfr, hlo, hrc, hrs, hnm⟩ := hF9
  have m1 := g.1.2.2.1
  have m2 := g.1.2.2.2
  refine va_mmin hx hb (by rw [hml, hL.1]) hown (hts _ h1) (hts _ h2) (hts _ h3) (hts _ h4) (by omega) (by rw [zcat_eq]; omega) (by omega) (by omega) (x := Int32.ofInt x) (y := Int32.ofInt y) hd ?_
  have g2 := g.2 hF hR a1 a2 H locs lsR hP hS hL
  rw [List.map_cons, show zV b b0 (0, zmin (0, x).2 (0, y).2) = .int (Int32.ofInt (zmin x y)) from rfl] at g2
  have e5 : (if Int32.ofInt y < Int32.ofInt x then Int32.ofInt y else Int32.ofInt x) = Int32.ofInt (zmin x y) := by
    unfold zmin
    by_cases q : y < x
    · rw [if_pos q, if_pos ((z32_lt oy ox).mpr q)]
    · rw [if_neg q, if_neg (fun z => q ((z32_lt oy ox).mp z))]
  rw [e5]; exact g2
theorem zs_icopy {index : Nat} (hd : decode cc pc = .ok (.invokestatic index, 3)) (h1 : Cond.methodLink own index arraycopyName ∈ zWS) (h2 : Cond.native arraycopyName ∈ zWS) (h3 : Cond.static arraycopyName ∈ zWS) (h4 : Cond.initialized "java/lang/System" ∈ zWS) : zSound tab own cc nL rt nm pc (zi_copy 100 (pc + 3)) := by
  intro D cy b b0 L xs l call p e R s m args below meth cd Q n0 s0 dl v c' hCall hbb ls st c k h hk w1 w2 w3 w4
  cases st with
  | nil => cases h
  | cons z st =>
  cases st with
  | nil => cases h
  | cons y st =>
  cases st with
  | nil => cases h
  | cons x st =>
  cases st with
  | nil => cases h
  | cons q st =>
  cases st with
  | nil => cases h
  | cons r st =>
  obtain ⟨e1, h⟩ := zc_of h
  obtain ⟨tz, z⟩ := z
  have e1 : tz = 0 := e1
  subst e1
  obtain ⟨e1, h⟩ := zc_of h
  obtain ⟨ty, y⟩ := y
  have e1 : ty = 0 := e1
  subst e1
  obtain ⟨e1, h⟩ := zc_of h
  obtain ⟨tx, x⟩ := x
  have e1 : tx = 2 := e1
  subst e1
  obtain ⟨e1, h⟩ := zc_of h
  obtain ⟨tq, q⟩ := q
  have e1 : tq = 0 := e1
  subst e1
  obtain ⟨e1, h⟩ := zc_of h
  obtain ⟨tr, r⟩ := r
  have e1 : tr = 2 := e1
  subst e1
  obtain ⟨e9, h⟩ := zc_le h
  obtain ⟨e2, h⟩ := zi_of h
  have e2 : c r (-1) = 100 ∧ c x (-1) = 100 ∧ 0 ≤ z ∧ 0 ≤ q ∧ 0 ≤ y ∧ q + z ≤ c r (-2) ∧ y + z ≤ c x (-2) := e2
  obtain ⟨e2, e3, e4, e5, e6, e7, e8⟩ := e2
  have oz : zin32 z := (zokl_h w3).1 rfl
  have oy : zin32 y := (zokl_h (zokl_t w3)).1 rfl
  have oq : zin32 q := (zokl_h (zokl_t (zokl_t (zokl_t w3)))).1 rfl
  obtain ⟨b1, b2⟩ := zwf_a w1 (a := r) (Or.inr (Or.inl e2))
  obtain ⟨d1, d2⟩ := zwf_a w1 (a := x) (Or.inr (Or.inl e3))
  obtain ⟨n1, n4⟩ := zwf_copy w1 (s := r) (sp := q) (d := x) (dp := y) (n := z) (Or.inr (Or.inl e2)) (by omega) (by omega) e5 e6
  have c00 : zcopy c r q x y z 0 = c 0 := n4 0 (by omega)
  have g := hk _ _ _ _ h n1 w2 (zokl_t (zokl_t (zokl_t (zokl_t (zokl_t w3))))) w4
  rw [show zcopy c ((2 : Nat), r).2 ((0 : Nat), q).2 ((2 : Nat), x).2 ((0 : Nat), y).2 ((0 : Nat), z).2 = zcopy c r q x y z from rfl, c00] at g
  refine ⟨g.1, fun hF hR a1 a2 H locs lsR hP hS hL => ?_⟩
  have hF9 := hF
  obtain ⟨hx, hb, hml, hown, hts, hKn, hX, hbb2, hsz, hn0, hs0, hfr, hlo, hrc, hrs, hnm⟩ := hF9
  simp only [List.map_cons]
  rw [zref (b := b) (b0 := b0) (x := r) (by omega), zref (b := b) (b0 := b0) (x := x) (by omega)]
  have he := zws_get (b := b) (b0 := b0) (cy := cy) b1 b2
  rw [zce_100 e2] at he
  have hf := zws_get (b := b) (b0 := b0) (cy := cy) d1 d2
  rw [zce_100 e3] at hf
  refine va_copyi (ty := .int) hx hb (by rw [hml, hL.1]) hown (hts _ h1) (hts _ h2) (hts _ h3) (hts _ h4) hKn.1 hP zws_D hS (r - 2).toNat (x - 2).toNat 0 0 he hf (zTY_at rfl) (zTY_at rfl) rfl (sp := Int32.ofInt q) (dp := Int32.ofInt y) (n := Int32.ofInt z) (by rw [z32_lt0 oq]; omega) (by rw [z32_lt0 oy]; omega) (by rw [z32_lt0 oz]; omega) (by rw [z32_clamp oq, z32_clamp oz]; omega) (by rw [z32_clamp oy, z32_clamp oz]; omega) (fun i hi => rfl) (by omega) (by rw [zcat_eq, show nativeFrameWords "java/lang/System" "arraycopy" 5 = 7 from by decide +kernel]; omega) hd (fun H1 locs1 hP1 hD1 hS1 => ?_)
  refine g.2 hF hR a1 a2 H1 locs1 lsR ?_ hS1 hL
  rw [z32_clamp oq, z32_clamp oy, z32_clamp oz] at hP1
  have el : zcopy c r q x y z x (-2) = c x (-2) := by unfold zcopy; rw [if_neg (by omega)]
  rw [← zws_set (c := c) (c' := zcopy c r q x y z) d1 (by rw [c00]) (fun a _ h3 => n4 a h3) rfl]
  rw [zce_100 (c := zcopy c r q x y z x) (by unfold zcopy; rw [if_neg (by omega)]; exact e3), el]
  have ef : (fun j : Nat => Int32.ofInt (zcopy c r q x y z x (j : Int))) = va_cpy (fun j : Nat => Int32.ofInt (c r (j : Int))) (fun j : Nat => Int32.ofInt (c x (j : Int))) q.toNat y.toNat z.toNat := by
    funext j
    unfold va_cpy zcopy
    by_cases hj : y.toNat ≤ j ∧ j < y.toNat + z.toNat
    · rw [if_pos hj, if_pos (by omega)]
      congr 2
      omega
    · rw [if_neg hj, if_neg (by omega)]
  rw [ef]
  exact hP1
theorem zs_lcopy {index : Nat} (hd : decode cc pc = .ok (.invokestatic index, 3)) (h1 : Cond.methodLink own index arraycopyName ∈ zWS) (h2 : Cond.native arraycopyName ∈ zWS) (h3 : Cond.static arraycopyName ∈ zWS) (h4 : Cond.initialized "java/lang/System" ∈ zWS) : zSound tab own cc nL rt nm pc (zi_copy 101 (pc + 3)) := by
  intro D cy b b0 L xs l call p e R s m args below meth cd Q n0 s0 dl v c' hCall hbb ls st c k h hk w1 w2 w3 w4
  cases st with
  | nil => cases h
  | cons z st =>
  cases st with
  | nil => cases h
  | cons y st =>
  cases st with
  | nil => cases h
  | cons x st =>
  cases st with
  | nil => cases h
  | cons q st =>
  cases st with
  | nil => cases h
  | cons r st =>
  obtain ⟨e1, h⟩ := zc_of h
  obtain ⟨tz, z⟩ := z
  have e1 : tz = 0 := e1
  subst e1
  obtain ⟨e1, h⟩ := zc_of h
  obtain ⟨ty, y⟩ := y
  have e1 : ty = 0 := e1
  subst e1
  obtain ⟨e1, h⟩ := zc_of h
  obtain ⟨tx, x⟩ := x
  have e1 : tx = 2 := e1
  subst e1
  obtain ⟨e1, h⟩ := zc_of h
  obtain ⟨tq, q⟩ := q
  have e1 : tq = 0 := e1
  subst e1
  obtain ⟨e1, h⟩ := zc_of h
  obtain ⟨tr, r⟩ := r
  have e1 : tr = 2 := e1
  subst e1
  obtain ⟨e9, h⟩ := zc_le h
  obtain ⟨e2, h⟩ := zi_of h
  have e2 : c r (-1) = 101 ∧ c x (-1) = 101 ∧ 0 ≤ z ∧ 0 ≤ q ∧ 0 ≤ y ∧ q + z ≤ c r (-2) ∧ y + z ≤ c x (-2) := e2
  obtain ⟨e2, e3, e4, e5, e6, e7, e8⟩ := e2
  have oz : zin32 z := (zokl_h w3).1 rfl
  have oy : zin32 y := (zokl_h (zokl_t w3)).1 rfl
  have oq : zin32 q := (zokl_h (zokl_t (zokl_t (zokl_t w3)))).1 rfl
  obtain ⟨b1, b2⟩ := zwf_a w1 (a := r) (Or.inr (Or.inr (Or.inl e2)))
  obtain ⟨d1, d2⟩ := zwf_a w1 (a := x) (Or.inr (Or.inr (Or.inl e3)))
  obtain ⟨n1, n4⟩ := zwf_copy w1 (s := r) (sp := q) (d := x) (dp := y) (n := z) (Or.inr (Or.inr (Or.inl e2))) (by omega) (by omega) e5 e6
  have c00 : zcopy c r q x y z 0 = c 0 := n4 0 (by omega)
  have g := hk _ _ _ _ h n1 w2 (zokl_t (zokl_t (zokl_t (zokl_t (zokl_t w3))))) w4
  rw [show zcopy c ((2 : Nat), r).2 ((0 : Nat), q).2 ((2 : Nat), x).2 ((0 : Nat), y).2 ((0 : Nat), z).2 = zcopy c r q x y z from rfl, c00] at g
  refine ⟨g.1, fun hF hR a1 a2 H locs lsR hP hS hL => ?_⟩
  have hF9 := hF
  obtain ⟨hx, hb, hml, hown, hts, hKn, hX, hbb2, hsz, hn0, hs0, hfr, hlo, hrc, hrs, hnm⟩ := hF9
  simp only [List.map_cons]
  rw [zref (b := b) (b0 := b0) (x := r) (by omega), zref (b := b) (b0 := b0) (x := x) (by omega)]
  have he := zws_get (b := b) (b0 := b0) (cy := cy) b1 b2
  rw [zce_101 e2] at he
  have hf := zws_get (b := b) (b0 := b0) (cy := cy) d1 d2
  rw [zce_101 e3] at hf
  refine va_copyl (ty := .long) hx hb (by rw [hml, hL.1]) hown (hts _ h1) (hts _ h2) (hts _ h3) (hts _ h4) hKn.1 hP zws_D hS (r - 2).toNat (x - 2).toNat 1 1 he hf (zTY_at rfl) (zTY_at rfl) rfl (sp := Int32.ofInt q) (dp := Int32.ofInt y) (n := Int32.ofInt z) (by rw [z32_lt0 oq]; omega) (by rw [z32_lt0 oy]; omega) (by rw [z32_lt0 oz]; omega) (by rw [z32_clamp oq, z32_clamp oz]; omega) (by rw [z32_clamp oy, z32_clamp oz]; omega) (fun i hi => rfl) (by omega) (by rw [zcat_eq, show nativeFrameWords "java/lang/System" "arraycopy" 5 = 7 from by decide +kernel]; omega) hd (fun H1 locs1 hP1 hD1 hS1 => ?_)
  refine g.2 hF hR a1 a2 H1 locs1 lsR ?_ hS1 hL
  rw [z32_clamp oq, z32_clamp oy, z32_clamp oz] at hP1
  have el : zcopy c r q x y z x (-2) = c x (-2) := by unfold zcopy; rw [if_neg (by omega)]
  rw [← zws_set (c := c) (c' := zcopy c r q x y z) d1 (by rw [c00]) (fun a _ h3 => n4 a h3) rfl]
  rw [zce_101 (c := zcopy c r q x y z x) (by unfold zcopy; rw [if_neg (by omega)]; exact e3), el]
  have ef : (fun j : Nat => Int64.ofInt (zcopy c r q x y z x (j : Int))) = va_cpy (fun j : Nat => Int64.ofInt (c r (j : Int))) (fun j : Nat => Int64.ofInt (c x (j : Int))) q.toNat y.toNat z.toNat := by
    funext j
    unfold va_cpy zcopy
    by_cases hj : y.toNat ≤ j ∧ j < y.toNat + z.toNat
    · rw [if_pos hj, if_pos (by omega)]
      congr 2
      omega
    · rw [if_neg hj, if_neg (by omega)]
  rw [ef]
  exact hP1
-- calls
theorem zcall_W {D : va_G} {cy : Nat → ClassId} {b b0 : Nat} {l : Launch} {p : Program} {e : Env} {R : Room} {s : State} {m : MethodId} {args a : Array Value} {below : List Frame} {meth : Method} {cd : Code} {Q : State → Prop} {H : Heap} {locs : List Loc} {cells slots mc ms : Nat} {lsR : Array Slot} {st0 rest : List Value} {rq : Option FieldType} {v1 : Int} {c1 : zC}
    (hr : va_Run p l e R s m args below meth cd H locs cells slots mc ms (F0 m pc lsR st0) rest (zQc D cy b b0 rq v1 c1 a) (zA b0)) (hS : va_S (zA b0) s.heap H locs)
    (kk : ∀ (H1 : Heap) (locs1 : List Loc), va_P D vwCl (zws b b0 cy c1) H1 → va_S (zA b0) s.heap H1 locs1 → W p l e R s m args below meth cd H1 locs1 (cells + mc) (slots + ms) Q (F0 m (pc + 3) lsR ((zrv b b0 rq v1).toList ++ rest))) : W p l e R s m args below meth cd H locs cells slots Q (F0 m pc lsR st0) := by
  intro T hT X
  obtain ⟨v, st₀, t, T', L, h0, X', hL, e1, e2, ⟨hv, hp, hz, hk⟩, st⟩ := hr T hT X
  cases hv
  rw [h0] at hz hk
  obtain ⟨t2, a1, b1⟩ := kk T'.heap (locs ++ L) (by rw [e1]; exact hp)
    ⟨Nat.le_trans hS.1 (by rw [e1]; exact hz), fun q h1 h2 => by rw [e1, hk q (Nat.lt_of_lt_of_le h1 hS.1) h2]; exact hS.2.1 q h1 h2, fun q hq => by
      rcases List.mem_append.mp hq with h | h
      · exact hS.2.2 q h
      · exact hL q h⟩ T' rfl X'
  exact ⟨t2, st t2 a1, b1⟩
theorem zok_zip {ts : List Nat} {as : List Int} {rest : List zTV} (h : zokl (List.zip ts as ++ rest)) : zokl (List.zip ts as) ∧ zokl rest := ⟨fun q hq => h q (List.mem_append_left _ hq), fun q hq => h q (List.mem_append_right _ hq)⟩
theorem zzip_rev {α β : Type} {ts : List α} {as : List β} (hl : as.length = ts.length) : (List.zip ts as).reverse = List.zip ts.reverse as.reverse := by
  induction ts generalizing as with
  | nil => simp
  | cons t ts ih =>
    cases as with
    | nil => simp at hl
    | cons a as =>
      have hl : as.length = ts.length := by simpa using hl
      rw [List.zip_cons_cons, List.reverse_cons, List.reverse_cons, List.reverse_cons, List.zip_append (by simp [hl]), ih hl]
      rfl
theorem zok_rev {ts : List Nat} {as : List Int} (hl : as.length = ts.length) (h : zokl (List.zip ts as)) : zokl (List.zip ts.reverse as.reverse) := by
  rw [← zzip_rev hl]
  exact fun q hq => h q (List.mem_reverse.mp hq)
theorem zip_rev {ts : List Nat} {as : List Int} {V : zTV → Value} (hl : as.length = ts.length) : (List.zip ts as).map V = ((List.zip ts.reverse as.reverse).map V).reverse := by
  rw [← zzip_rev hl, List.map_reverse, List.reverse_reverse]
/-- what the small machine does with an answer, and the real one -/
theorem zans {b b0 : Nat} {rq : Option FieldType} {v1 : Int} {rk : Nat} {r : List zTV} (hrk : rk = match rq with | none => 3 | some ty => ztg ty) : (zrv b b0 rq v1).toList ++ r.map (zV b b0) = (cond (Nat.beq rk 3) r ((rk, v1) :: r)).map (zV b b0) := by
  cases rq with
  | none => subst hrk; rfl
  | some ty =>
    have e : Nat.beq rk 3 = false := by rw [hrk]; cases ty <;> rfl
    rw [e, hrk]
    rfl
theorem zans_ok {rq : Option FieldType} {v1 : Int} {rk : Nat} {r : List zTV} (hrk : rk = match rq with | none => 3 | some ty => ztg ty) (h : zokr rq v1) (hr : zokl r) : zokl (cond (Nat.beq rk 3) r ((rk, v1) :: r)) := by
  cases rq with
  | none => subst hrk; exact hr
  | some ty =>
    have e : Nat.beq rk 3 = false := by rw [hrk]; cases ty <;> rfl
    rw [e, hrk]
    exact zokl_c h hr
theorem zblind {D : va_G} {cy : Nat → ClassId} {b b0 L : Nat} {xs : Nat → Int32} {tg : List Nat} {as : List Int} {c : zC} : FrameBlind (zPc D cy b b0 L xs tg as c) := fun a U g mk q => by
  obtain ⟨q1, q2, q3, q4, q5⟩ := q
  exact ⟨q1, q2, q3, zKn.same (U := U.calling g mk a) rfl q4, va_X.moved (Vm.Alike.refl _) q5⟩
theorem zws_code {q : zT} (hcode : Cond.code q.1 q.2.1 q.2.2.1 q.2.2.2.1 ∈ zWS) : ∀ w ∈ (Cond.code q.1 q.2.1 q.2.2.1 q.2.2.2.1 :: zWS), w ∈ zWS := fun w hw => by
  rcases List.mem_cons.mp hw with rfl | hw
  · exact hcode
  · exact hw
theorem zs_callV {index mi ci : Nat} {C : String} {T : u_T} {N : Nat} {ty : Nat → FieldType} {q : zT} {tgr tg' : List Nat} {kd : Int} {rk : Nat} (hd : decode cc pc = .ok (.invokevirtual index, 3)) (hC : zCI ci C T N ty) (hkd : kd = (ci : Int) + 1) (hq : tab mi = q) (htg : q.2.2.2.2.1 = 2 :: tg') (htr : tgr = (2 :: tg').reverse) (hy : q.1.cls = C)
    (h1 : Cond.methodLink own index q.1 ∈ zWS) (h2 : Cond.instanceMethod q.1 ∈ zWS) (h3 : Cond.selects C q.1 q.1 ∈ zWS) (h4 : Cond.initialized C ∈ zWS) (hcode : Cond.code q.1 q.2.1 q.2.2.1 q.2.2.2.1 ∈ zWS) (hpd : q.1.cls ≠ "java/lang/invoke/MethodHandle" ∧ q.1.cls ≠ "java/lang/invoke/VarHandle" ∧ (parseMethodDescriptor q.1.desc).map (fun d => d.parameters.length) = some tg'.length) (hnl : q.2.2.1 ≤ 45)
    (hrk : rk = match q.2.2.2.1 with | none => 3 | some ty => ztg ty) : zSound tab own cc nL rt nm pc (zi_callV kd mi tgr rk (pc + 3)) := by
  intro D cy b b0 L xs l call p e R s m args below meth cd Q n0 s0 dl v c' hCall hbb ls st c k h hk w1 w2 w3 w4
  obtain ⟨as', rest, l1, rfl, l3, h⟩ := zpop_of h
  rw [List.append_nil] at h
  obtain ⟨o1, o2⟩ := zok_zip w3
  have l4 : as'.reverse.length = (2 :: tg').length := by rw [List.length_reverse, l1, htr, List.length_reverse]
  have o3 := zok_rev l1 o1
  rw [htr, List.reverse_reverse] at o3
  have hst : (List.zip tgr as').map (zV b b0) = ((List.zip (2 :: tg') as'.reverse).map (zV b b0)).reverse := by
    rw [zip_rev l1, htr, List.reverse_reverse]
  generalize as'.reverse = as at h l4 o3 hst
  cases as with
  | nil => cases h
  | cons x as =>
  obtain ⟨e2, h⟩ := zi_of h
  obtain ⟨v1, c1, hc1, h⟩ := zb_of h
  have hk0 : c x (-1) = (ci : Int) + 1 := e2.trans hkd
  obtain ⟨b1, b2⟩ := zwf_a w1 (zCI_kd hC hk0)
  have hcon := hCall mi (x :: as) c v1 c1 hc1
  rw [hq] at hcon
  obtain ⟨⟨r1, r2, r3, r4⟩, hM⟩ := hcon hbb w1 (by rw [htg]; exact o3) (by rw [htg]; exact l4)
  have g := hk _ _ _ _ h r2 w2 (zans_ok hrk r1 o2) w4
  refine ⟨⟨g.1.1, g.1.2.1, by omega, by omega⟩, fun hF hR a1 a2 H locs lsR hP hS hL => ?_⟩
  have hF9 := hF
  obtain ⟨hx, hb, hml, hown, hts, hKn, hX, hbb2, hsz, hn0, hs0, hfr, hlo, hrc, hrs, hnm⟩ := hF9
  have m1 := g.1.2.2.1
  have m2 := g.1.2.2.2
  refine zW_size (fun hu => ?_)
  have hsize := zsize hP hS hsz hn0 a1 hu
  have hXH : va_X b L xs s H := hX.kept (hS.2.1 b (by omega) (by show ¬ b0 ≤ b; omega))
  have hargs : (List.zip (2 :: tg') (x :: as)).map (zV b b0) = .ref (zro b b0 x) :: (List.zip tg' as).map (zV b b0) := by
    rw [List.zip_cons_cons, List.map_cons, zref (by omega)]
  have hlen : ((List.zip tg' as).map (zV b b0)).length = tg'.length := by
    have : as.length = tg'.length := by simpa using l4
    simp [this]
  rw [List.map_append, hst, hargs, List.reverse_cons, List.append_assoc, List.singleton_append]
  refine zcall_W (rest := rest.map (zV b b0)) (va_runV (As := (List.zip tg' as).map (zV b b0)) (b := zro b b0 x) (C := C) (n := tg'.length) ⟨hx, hb, hml, hown, hts⟩ hM (cwV tg'.length hts (zWS_good (fun w hw => ?_)) rfl rfl rfl ⟨hy, hpd⟩ ⟨hfr, by simp only [zrm]; omega⟩) ⟨zblind, va_recv hKn.1 hP hC.1 (zCI_he hC b1 b2 hk0), fun U hU hW => ⟨by rw [htg, hargs], by rw [hU]; exact hP, by rw [hU]; exact hsize, hKn.moved hW, by rw [hU]; exact hXH.moved hW.alike⟩⟩ rfl hlen hL.1 rfl (by show 2 * 0 + _ ≤ 8; rw [zcat_eq]; omega) hd ⟨by omega, by omega⟩) hS (fun H1 locs1 hP1 hS1 => ?_)
  · rcases List.mem_append.mp (show w ∈ ([.methodLink own index q.1, .instanceMethod q.1, .selects C q.1 q.1, .initialized C] : List Cond) ++ (Cond.code q.1 q.2.1 q.2.2.1 q.2.2.2.1 :: zWS) from hw) with hw | hw
    · simp only [List.mem_cons, List.not_mem_nil, or_false] at hw
      rcases hw with rfl | rfl | rfl | rfl <;> assumption
    · exact zws_code hcode w hw
  · rw [show (c 0 0 - n0).toNat + (c1 0 0 - c 0 0).toNat = (c1 0 0 - n0).toNat by omega, show (c 0 1 - s0).toNat + (c1 0 1 - c 0 1).toNat = (c1 0 1 - s0).toNat by omega, zans hrk]
    exact g.2 hF hR (by omega) (by omega) H1 locs1 lsR hP1 hS1 hL
theorem zs_callI {index mi ci : Nat} {C : String} {T : u_T} {N : Nat} {ty : Nat → FieldType} {q : zT} {tgr tg' : List Nat} {kd : Int} {rk : Nat} (hd : decode cc pc = .ok (.invokespecial index, 3)) (hC : zCI ci C T N ty) (hkd : kd = (ci : Int) + 1) (hq : tab mi = q) (htg : q.2.2.2.2.1 = 2 :: tg') (htr : tgr = (2 :: tg').reverse) (hy : q.1.cls = C)
    (h1 : Cond.methodLink own index q.1 ∈ zWS) (h2 : Cond.instanceMethod q.1 ∈ zWS) (h3 : q.1.name = "<init>") (h4 : Cond.initialized q.1.cls ∈ zWS) (hrt : q.2.2.2.1 = none) (hcode : Cond.code q.1 q.2.1 q.2.2.1 q.2.2.2.1 ∈ zWS) (hpd : q.1.cls ≠ "java/lang/invoke/MethodHandle" ∧ q.1.cls ≠ "java/lang/invoke/VarHandle" ∧ (parseMethodDescriptor q.1.desc).map (fun d => d.parameters.length) = some tg'.length) (hnl : q.2.2.1 ≤ 45)
    (hrk : rk = match q.2.2.2.1 with | none => 3 | some ty => ztg ty) : zSound tab own cc nL rt nm pc (zi_callV kd mi tgr rk (pc + 3)) := by
  intro D cy b b0 L xs l call p e R s m args below meth cd Q n0 s0 dl v c' hCall hbb ls st c k h hk w1 w2 w3 w4
  obtain ⟨as', rest, l1, rfl, l3, h⟩ := zpop_of h
  rw [List.append_nil] at h
  obtain ⟨o1, o2⟩ := zok_zip w3
  have l4 : as'.reverse.length = (2 :: tg').length := by rw [List.length_reverse, l1, htr, List.length_reverse]
  have o3 := zok_rev l1 o1
  rw [htr, List.reverse_reverse] at o3
  have hst : (List.zip tgr as').map (zV b b0) = ((List.zip (2 :: tg') as'.reverse).map (zV b b0)).reverse := by
    rw [zip_rev l1, htr, List.reverse_reverse]
  generalize as'.reverse = as at h l4 o3 hst
  cases as with
  | nil => cases h
  | cons x as =>
  obtain ⟨e2, h⟩ := zi_of h
  obtain ⟨v1, c1, hc1, h⟩ := zb_of h
  have hk0 : c x (-1) = (ci : Int) + 1 := e2.trans hkd
  obtain ⟨b1, b2⟩ := zwf_a w1 (zCI_kd hC hk0)
  have hcon := hCall mi (x :: as) c v1 c1 hc1
  rw [hq] at hcon
  obtain ⟨⟨r1, r2, r3, r4⟩, hM⟩ := hcon hbb w1 (by rw [htg]; exact o3) (by rw [htg]; exact l4)
  have g := hk _ _ _ _ h r2 w2 (zans_ok hrk r1 o2) w4
  refine ⟨⟨g.1.1, g.1.2.1, by omega, by omega⟩, fun hF hR a1 a2 H locs lsR hP hS hL => ?_⟩
  have hF9 := hF
  obtain ⟨hx, hb, hml, hown, hts, hKn, hX, hbb2, hsz, hn0, hs0, hfr, hlo, hrc, hrs, hnm⟩ := hF9
  have m1 := g.1.2.2.1
  have m2 := g.1.2.2.2
  refine zW_size (fun hu => ?_)
  have hsize := zsize hP hS hsz hn0 a1 hu
  have hXH : va_X b L xs s H := hX.kept (hS.2.1 b (by omega) (by show ¬ b0 ≤ b; omega))
  have hargs : (List.zip (2 :: tg') (x :: as)).map (zV b b0) = .ref (zro b b0 x) :: (List.zip tg' as).map (zV b b0) := by
    rw [List.zip_cons_cons, List.map_cons, zref (by omega)]
  have hlen : ((List.zip tg' as).map (zV b b0)).length = tg'.length := by
    have : as.length = tg'.length := by simpa using l4
    simp [this]
  rw [List.map_append, hst, hargs, List.reverse_cons, List.append_assoc, List.singleton_append]
  have hM2 := hM
  rw [hrt] at hM2
  refine zcall_W (rest := rest.map (zV b b0)) (va_runI (As := (List.zip tg' as).map (zV b b0)) (b := zro b b0 x) (n := tg'.length) ⟨hx, hb, hml, hown, hts⟩ hM2 (cwI tg'.length hts (zWS_good (fun w hw => by have h9 := zws_code hcode; rw [hrt] at h9; exact h9 w hw)) rfl rfl rfl (hts _ h4) (hts _ h1) (hts _ h2) h3 hpd ⟨hfr, by simp only [zrm]; omega⟩) ⟨zblind, fun U hU hW => ⟨by rw [htg, hargs], by rw [hU]; exact hP, by rw [hU]; exact hsize, hKn.moved hW, by rw [hU]; exact hXH.moved hW.alike⟩⟩ rfl hlen hL.1 rfl (by show 2 * 0 + _ ≤ 8; rw [zcat_eq]; omega) hd ⟨by omega, by omega⟩) hS (fun H1 locs1 hP1 hS1 => ?_)
  rw [show (c 0 0 - n0).toNat + (c1 0 0 - c 0 0).toNat = (c1 0 0 - n0).toNat by omega, show (c 0 1 - s0).toNat + (c1 0 1 - c 0 1).toNat = (c1 0 1 - s0).toNat by omega, ← hrt, zans hrk]
  exact g.2 hF hR (by omega) (by omega) H1 locs1 lsR hP1 hS1 hL
theorem zs_callIN {index mi ci : Nat} {C : String} {T : u_T} {N : Nat} {ty : Nat → FieldType} {q : zT} {tgr tg' : List Nat} {kd : Int} {rk : Nat} (hd : decode cc pc = .ok (.invokespecial index, 3)) (hC : zCI ci C T N ty) (hkd : kd = (ci : Int) + 1) (hq : tab mi = q) (htg : q.2.2.2.2.1 = 2 :: tg') (htr : tgr = (2 :: tg').reverse) (hy : q.1.cls = C)
    {host : String} (h1 : (own, index, q.1, host) ∈ zNW) (h2 : Cond.instanceMethod q.1 ∈ zWS) (h3 : q.1.name = "<init>") (h4 : Cond.initialized q.1.cls ∈ zWS) (hrt : q.2.2.2.1 = none) (hcode : Cond.code q.1 q.2.1 q.2.2.1 q.2.2.2.1 ∈ zWS) (hpd : q.1.cls ≠ "java/lang/invoke/MethodHandle" ∧ q.1.cls ≠ "java/lang/invoke/VarHandle" ∧ (parseMethodDescriptor q.1.desc).map (fun d => d.parameters.length) = some tg'.length) (hnl : q.2.2.1 ≤ 45)
    (hrk : rk = match q.2.2.2.1 with | none => 3 | some ty => ztg ty) : zSound tab own cc nL rt nm pc (zi_callV kd mi tgr rk (pc + 3)) := by
  intro D cy b b0 L xs l call p e R s m args below meth cd Q n0 s0 dl v c' hCall hbb ls st c k h hk w1 w2 w3 w4
  obtain ⟨as', rest, l1, rfl, l3, h⟩ := zpop_of h
  rw [List.append_nil] at h
  obtain ⟨o1, o2⟩ := zok_zip w3
  have l4 : as'.reverse.length = (2 :: tg').length := by rw [List.length_reverse, l1, htr, List.length_reverse]
  have o3 := zok_rev l1 o1
  rw [htr, List.reverse_reverse] at o3
  have hst : (List.zip tgr as').map (zV b b0) = ((List.zip (2 :: tg') as'.reverse).map (zV b b0)).reverse := by
    rw [zip_rev l1, htr, List.reverse_reverse]
  generalize as'.reverse = as at h l4 o3 hst
  cases as with
  | nil => cases h
  | cons x as =>
  obtain ⟨e2, h⟩ := zi_of h
  obtain ⟨v1, c1, hc1, h⟩ := zb_of h
  have hk0 : c x (-1) = (ci : Int) + 1 := e2.trans hkd
  obtain ⟨b1, b2⟩ := zwf_a w1 (zCI_kd hC hk0)
  have hcon := hCall mi (x :: as) c v1 c1 hc1
  rw [hq] at hcon
  obtain ⟨⟨r1, r2, r3, r4⟩, hM⟩ := hcon hbb w1 (by rw [htg]; exact o3) (by rw [htg]; exact l4)
  have g := hk _ _ _ _ h r2 w2 (zans_ok hrk r1 o2) w4
  refine ⟨⟨g.1.1, g.1.2.1, by omega, by omega⟩, fun hF hR a1 a2 H locs lsR hP hS hL => ?_⟩
  have hF9 := hF
  obtain ⟨hx, hb, hml, hown, hts, hKn, hX, hbb2, hsz, hn0, hs0, hfr, hlo, hrc, hrs, hnm⟩ := hF9
  have m1 := g.1.2.2.1
  have m2 := g.1.2.2.2
  refine zW_size (fun hu => ?_)
  have hsize := zsize hP hS hsz hn0 a1 hu
  have hXH : va_X b L xs s H := hX.kept (hS.2.1 b (by omega) (by show ¬ b0 ≤ b; omega))
  have hargs : (List.zip (2 :: tg') (x :: as)).map (zV b b0) = .ref (zro b b0 x) :: (List.zip tg' as).map (zV b b0) := by
    rw [List.zip_cons_cons, List.map_cons, zref (by omega)]
  have hlen : ((List.zip tg' as).map (zV b b0)).length = tg'.length := by
    have : as.length = tg'.length := by simpa using l4
    simp [this]
  rw [List.map_append, hst, hargs, List.reverse_cons, List.append_assoc, List.singleton_append]
  have hM2 := hM
  rw [hrt] at hM2
  refine zcall_W (rest := rest.map (zV b b0)) (va_runIN (As := (List.zip tg' as).map (zV b b0)) (b := zro b b0 x) (n := tg'.length) ⟨hx, hb, hml, hown, hts⟩ hM2 ⟨va_cnB tg'.length hts (zWS_good (fun w hw => by have h9 := zws_code hcode; rw [hrt] at h9; exact h9 w hw)) rfl rfl rfl (hKn.2.1 _ h1) (hts _ h4) hpd ⟨hfr, by simp only [zrm]; omega⟩, h3, hts _ h2⟩ ⟨zblind, fun U hU hW => ⟨by rw [htg, hargs], by rw [hU]; exact hP, by rw [hU]; exact hsize, hKn.moved hW, by rw [hU]; exact hXH.moved hW.alike⟩⟩ rfl hlen hL.1 rfl (by show 2 * 0 + _ ≤ 8; rw [zcat_eq]; omega) hd ⟨by omega, by omega⟩) hS (fun H1 locs1 hP1 hS1 => ?_)
  rw [show (c 0 0 - n0).toNat + (c1 0 0 - c 0 0).toNat = (c1 0 0 - n0).toNat by omega, show (c 0 1 - s0).toNat + (c1 0 1 - c 0 1).toNat = (c1 0 1 - s0).toNat by omega, ← hrt, zans hrk]
  exact g.2 hF hR (by omega) (by omega) H1 locs1 lsR hP1 hS1 hL
theorem zs_callS {index mi : Nat} {q : zT} {tgr : List Nat} {rk : Nat} (hd : decode cc pc = .ok (.invokestatic index, 3)) (hq : tab mi = q) (htr : tgr = q.2.2.2.2.1.reverse)
    (h1 : Cond.methodLink own index q.1 ∈ zWS) (h2 : Cond.static q.1 ∈ zWS) (h4 : Cond.initialized q.1.cls ∈ zWS) (hcode : Cond.code q.1 q.2.1 q.2.2.1 q.2.2.2.1 ∈ zWS) (hpd : q.1.cls ≠ "java/lang/invoke/MethodHandle" ∧ q.1.cls ≠ "java/lang/invoke/VarHandle" ∧ (parseMethodDescriptor q.1.desc).map (fun d => d.parameters.length) = some q.2.2.2.2.1.length) (hnl : q.2.2.1 ≤ 45)
    (hrk : rk = match q.2.2.2.1 with | none => 3 | some ty => ztg ty) : zSound tab own cc nL rt nm pc (zi_callS mi tgr rk (pc + 3)) := by
  intro D cy b b0 L xs l call p e R s m args below meth cd Q n0 s0 dl v c' hCall hbb ls st c k h hk w1 w2 w3 w4
  obtain ⟨as', rest, l1, rfl, l3, h⟩ := zpop_of h
  rw [List.append_nil] at h
  obtain ⟨o1, o2⟩ := zok_zip w3
  have l4 : as'.reverse.length = q.2.2.2.2.1.length := by rw [List.length_reverse, l1, htr, List.length_reverse]
  have o3 := zok_rev l1 o1
  rw [htr, List.reverse_reverse] at o3
  have hst : (List.zip tgr as').map (zV b b0) = ((List.zip q.2.2.2.2.1 as'.reverse).map (zV b b0)).reverse := by
    rw [zip_rev l1, htr, List.reverse_reverse]
  generalize as'.reverse = as at h l4 o3 hst
  obtain ⟨v1, c1, hc1, h⟩ := zb_of h
  have hcon := hCall mi as c v1 c1 hc1
  rw [hq] at hcon
  obtain ⟨⟨r1, r2, r3, r4⟩, hM⟩ := hcon hbb w1 o3 l4
  have g := hk _ _ _ _ h r2 w2 (zans_ok hrk r1 o2) w4
  refine ⟨⟨g.1.1, g.1.2.1, by omega, by omega⟩, fun hF hR a1 a2 H locs lsR hP hS hL => ?_⟩
  have hF9 := hF
  obtain ⟨hx, hb, hml, hown, hts, hKn, hX, hbb2, hsz, hn0, hs0, hfr, hlo, hrc, hrs, hnm⟩ := hF9
  have m1 := g.1.2.2.1
  have m2 := g.1.2.2.2
  refine zW_size (fun hu => ?_)
  have hsize := zsize hP hS hsz hn0 a1 hu
  have hXH : va_X b L xs s H := hX.kept (hS.2.1 b (by omega) (by show ¬ b0 ≤ b; omega))
  have hlen : ((List.zip q.2.2.2.2.1 as).map (zV b b0)).length = q.2.2.2.2.1.length := by simp [l4]
  rw [List.map_append, hst]
  refine zcall_W (rest := rest.map (zV b b0)) (va_runS (As := (List.zip q.2.2.2.2.1 as).map (zV b b0)) (n := q.2.2.2.2.1.length) ⟨hx, hb, hml, hown, hts⟩ hM ⟨callB_of q.2.2.2.2.1.length hts (zWS_good (zws_code hcode)) rfl rfl rfl (hts _ h4) (hts _ h1) hpd ⟨hfr, by simp only [zrm]; omega⟩, hts _ h2⟩ ⟨zblind, fun U hU hW => ⟨rfl, by rw [hU]; exact hP, by rw [hU]; exact hsize, hKn.moved hW, by rw [hU]; exact hXH.moved hW.alike⟩⟩ rfl hlen hL.1 rfl (by show 2 * 0 + _ ≤ 8; rw [zcat_eq]; omega) hd ⟨by omega, by omega⟩) hS (fun H1 locs1 hP1 hS1 => ?_)
  rw [show (c 0 0 - n0).toNat + (c1 0 0 - c 0 0).toNat = (c1 0 0 - n0).toNat by omega, show (c 0 1 - s0).toNat + (c1 0 1 - c 0 1).toNat = (c1 0 1 - s0).toNat by omega, zans hrk]
  exact g.2 hF hR (by omega) (by omega) H1 locs1 lsR hP1 hS1 hL
end
end
section
/-! What the small machine computes, the real one computes. -/
section
variable {tab : Nat → zT} {own : String} {cc : ByteArray} {nL : Nat} {rt : Option FieldType} {nm : String}
variable {D : va_G} {cy : Nat → ClassId} {b b0 L : Nat} {xs : Nat → Int32} {l : Launch} {call : zCall} {p : Program} {e : Env} {R : Room} {s : State} {m : MethodId} {args : Array Value} {below : List Frame} {meth : Method} {cd : Code} {Q : State → Prop} {n0 s0 : Int} {dl : Nat} {v : Int} {c' : zC}
theorem zseg_ok {code : Nat → zIns} {cuts : Nat → Option (List Bool)} {K : zK} (hs : ∀ pc, zSound tab own cc nL rt nm pc (code pc)) (hCall : zHC tab D cy b b0 L xs l call dl) (hbb : b < b0)
    (hK : ∀ (pc : Nat) (ls st : List zTV) (c : zC), K pc ls st c = some (v, c') → zWA D cy b b0 L xs own cc nL rt nm dl p l e R s m args below meth cd Q n0 s0 v c' pc ls st c) :
    ∀ (n pc : Nat) (ls st : List zTV) (c : zC), zseg code cuts call K n pc ls st c = some (v, c') → zWA D cy b b0 L xs own cc nL rt nm dl p l e R s m args below meth cd Q n0 s0 v c' pc ls st c := by
  intro n
  induction n with
  | zero => intro pc ls st c h; cases h
  | succ n ih =>
    intro pc ls st c h
    refine hs pc D cy b b0 L xs l call p e R s m args below meth cd Q n0 s0 dl v c' hCall hbb ls st c _ h (fun pc' ls' st' c1 h1 => ?_)
    cases hc : cuts pc' with
    | some mk =>
      rw [hc] at h1
      have g := hK pc' (zmask mk ls') st' c1 h1
      intro w1 w2 w3 w4
      have g1 := g w1 (zmask_ok w2) w3 (by rw [zmask_len]; exact w4)
      exact ⟨g1.1, fun hF hR a1 a2 H locs lsR hP hS hL => g1.2 hF hR a1 a2 H locs lsR hP hS (zl_sub hL zmask_lv)⟩
    | none => rw [hc] at h1; exact ih pc' ls' st' c1 h1
theorem zex_ok {code : Nat → zIns} {cuts : Nat → Option (List Bool)} (hs : ∀ pc, zSound tab own cc nL rt nm pc (code pc)) (hCall : zHC tab D cy b b0 L xs l call dl) (hbb : b < b0) :
    ∀ (n pc : Nat) (ls st : List zTV) (c : zC), zex code cuts call n pc ls st c = some (v, c') → zWA D cy b b0 L xs own cc nL rt nm dl p l e R s m args below meth cd Q n0 s0 v c' pc ls st c := by
  intro n
  induction n with
  | zero => intro pc ls st c h; cases h
  | succ n ih => intro pc ls st c h; exact zseg_ok hs hCall hbb ih 1000 pc ls st c h
end
/-- how many locals the arguments take -/
def zwide : List Nat → Nat
  | [] => 0
  | t :: ts => cond (Nat.beq t 1) 2 1 + zwide ts
theorem zwide_sl {b b0 : Nat} {ts : List Nat} {as : List Int} : (lg_sl ((List.zip ts as).map (zV b b0))).length ≤ zwide ts := by
  induction ts generalizing as with
  | nil => simp [lg_sl]
  | cons t ts ih =>
    cases as with
    | nil => simp [lg_sl]
    | cons x as =>
      have h := ih (as := as)
      rw [List.zip_cons_cons, List.map_cons]
      show (lg_sl (zV b b0 (t, x) :: _)).length ≤ cond (Nat.beq t 1) 2 1 + zwide ts
      unfold lg_sl at h ⊢
      rw [List.flatMap_cons, List.length_append]
      by_cases e : t = 1
      · subst e
        have : (if (zV b b0 (1, x)).category = 2 then [Slot.val (zV b b0 (1, x)), Slot.second] else [Slot.val (zV b b0 (1, x))]).length = 2 := rfl
        rw [this]
        show _ ≤ 2 + _
        omega
      · rw [zV_cat (t, x) e, if_neg (by decide)]
        cases Nat.beq t 1
        · show 1 + _ ≤ 1 + _; omega
        · show 1 + _ ≤ 2 + _; omega
/-- what is to be known of a method -/
def zMeth (tab : Nat → zT) (mi : Nat) : Prop :=
  (∀ (call : zCall) (as : List Int) (c : zC), zrunM ((tab mi).2.2.2.2.2.1, (tab mi).2.2.2.2.2.2, (tab mi).2.2.2.2.1, (tab mi).2.2.1) call as c = none) ∨
  (plainName (tab mi).1.cls = true ∧ zwide (tab mi).2.2.2.2.1 ≤ (tab mi).2.2.1 ∧ ((tab mi).2.2.2.1 = none ∨ (tab mi).2.2.2.1 = some .int ∨ (tab mi).2.2.2.1 = some .boolean ∨ (tab mi).2.2.2.1 = some .long ∨ ∃ n, (tab mi).2.2.2.1 = some (.object n)) ∧
    ∀ pc, zSound tab (tab mi).1.cls (tab mi).2.1 (tab mi).2.2.1 (tab mi).2.2.2.1 (tab mi).1.name pc ((tab mi).2.2.2.2.2.1 pc))
def zrun (tab : Nat → zT) : Nat → zCall
  | 0 => fun _ _ _ => none
  | d + 1 => fun mi as c => zrunM ((tab mi).2.2.2.2.2.1, (tab mi).2.2.2.2.2.2, (tab mi).2.2.2.2.1, (tab mi).2.2.1) (zrun tab d) as c
theorem zent_ls {b b0 : Nat} {ts : List Nat} {as : List Int} {n : Nat} (hn : zwide ts ≤ n) : lv_has ((lg_sl ((List.zip ts as).map (zV b b0)) ++ List.replicate (n - (lg_sl ((List.zip ts as).map (zV b b0))).length) Slot.unset).toArray) n (zlv (zV b b0) 0 (zpad n (zent ts as))) :=
  zl_sub (lv_entry _ (Nat.le_trans zwide_sl hn)) (zent_mem (fun x => rfl) (fun t x h => zV_cat (t, x) h) n 0)
theorem zsim (p0 : Program) (e0 : Env) {tab : Nat → zT} (hm : ∀ mi, zMeth tab mi) {D : va_G} {cy : Nat → ClassId} {b b0 L : Nat} {xs : Nat → Int32} {l : Launch} : ∀ d : Nat, zHC tab D cy b b0 L xs l (zrun tab d) d := by
  intro d
  induction d with
  | zero => intro mi as c v c' h; cases h
  | succ d ih =>
    intro mi as c v c' h
    have h : zrunM ((tab mi).2.2.2.2.2.1, (tab mi).2.2.2.2.2.2, (tab mi).2.2.2.2.1, (tab mi).2.2.1) (zrun tab d) as c = some (v, c') := h
    rcases hm mi with hz | ⟨hpn, hwd, hrt, hs⟩
    · rw [hz] at h; cases h
    · intro hbb w1 o1 l1
      generalize hq : tab mi = q at h hpn hwd hrt hs o1 l1 ⊢
      obtain ⟨y, bytes, nL, rt, tg, code, cuts⟩ := q
      dsimp only at h hpn hwd hrt hs o1 l1 ⊢
      have hall := fun (p : Program) (e : Env) (R : Room) (s : State) (m : MethodId) (args : Array Value) (below : List Frame) (meth : Method) (cd : Code) (Q : State → Prop) (n0 s0 : Int) =>
        zex_ok (p := p) (e := e) (R := R) (s := s) (m := m) (args := args) (below := below) (meth := meth) (cd := cd) (Q := Q) (n0 := n0) (s0 := s0) hs ih hbb 20000 0 _ _ c h w1 (zpad_ok (zent_ok o1)) (fun q hq => by cases hq) (zpad_len _ _)
      have hfirst := (hall p0 e0 {} default default default default default { maxStack := 0, maxLocals := 0, code := ⟨#[]⟩, exceptionTable := #[], attributes := #[] } (fun _ => True) 0 0).1
      refine ⟨hfirst, ?_⟩
      obtain ⟨f1, f2, f3, f4⟩ := hfirst
      refine Met.ofW (cc := bytes) (maxL := nL) (ret := rt) hpn rfl ?_
      intro p e s m args below meth cd s₁ B hml hv
      obtain ⟨rfl, hP, hsz, hKn, hX⟩ := hv
      have hts := atoms_spec B.pre
      rw [lg_entry_eq]
      have hL := zent_ls (b := b) (b0 := b0) (as := as) hwd
      have hF : zFx D cy b b0 L xs y.cls bytes nL y.name p (zrm c c' (d + 1)) s m ((List.zip tg as).map (zV b b0)).toArray meth cd (c 0 0) (c 0 1) d c' :=
        ⟨B.exec, B.bytes, hml, findClass_of_methodNamed B.named, fun w hw => hts w (List.mem_cons_of_mem _ hw), hKn, hX, hbb, hsz, w1.1, w1.2.1, Nat.le_refl _, Nat.le_refl _, Nat.le_refl _, Nat.le_refl _, (name_of_methodNamed B.named B.method).1⟩
      have hR : zRt D cy b b0 bytes rt p l e (zrm c c' (d + 1)) s m ((List.zip tg as).map (zV b b0)).toArray below meth cd (MQ below (zQc D cy b b0 rt v c') ((List.zip tg as).map (zV b b0)).toArray s (c' 0 0 - c 0 0).toNat (c' 0 1 - c 0 1).toNat (zA b0)) (c 0 0) (c 0 1) v c' := by
        intro pc H locs lsR stv hra hP2 hS2
        have hq : ∀ (vo : Option Value), vo = zrv b b0 rt v → ∀ t : State, t.heap = H → s.WarmedH t.vm → zQc D cy b b0 rt v c' ((List.zip tg as).map (zV b b0)).toArray s (.returned vo) t := fun vo hvo t ht hW => ⟨by rw [hvo], by rw [ht]; exact hP2, hS2.F ht⟩
        have hlocks := B.notSynchronized
        rcases hrt with rfl | rfl | rfl | rfl | ⟨n, rfl⟩
        · obtain ⟨hd, rfl⟩ := hra
          exact W.vret B.exec B.bytes B.returns (hq none rfl) hS2.2.2 hd
        · obtain ⟨hd, rfl⟩ := hra
          exact W.iret B.exec B.bytes B.returns (hq _ rfl) hS2.2.2 hd
        · obtain ⟨hd, rfl, hz⟩ := hra
          exact W.zret (ty := .boolean) B.exec B.bytes B.returns (zfitZ hz).1 (hq _ rfl) hS2.2.2 hd
        · obtain ⟨hd, rfl⟩ := hra
          exact W.lret B.exec B.bytes B.returns (hq _ rfl) hS2.2.2 hd
        · obtain ⟨hd, rfl⟩ := hra
          refine W.aret (rt := .object n) B.exec B.bytes B.returns (Or.inl ⟨n, rfl⟩) ?_ (hq _ rfl) hS2.2.2 hd
          by_cases e0 : v = 0
          · subst e0; exact Or.inl rfl
          · exact Or.inr ⟨_, zref e0⟩
      have hw := (hall p e (zrm c c' (d + 1)) s m _ below meth cd _ (c 0 0) (c 0 1)).2 hF hR (Int.le_refl _) (Int.le_refl _) s.heap [] _ hP va_S.rf hL
      rw [show (c 0 0 - c 0 0).toNat = 0 by omega, show (c 0 1 - c 0 1).toNat = 0 by omega] at hw
      exact hw
end
section
theorem i_vc : Claimed_1_1 ∧ Claimed_1_2 := sorry
end
