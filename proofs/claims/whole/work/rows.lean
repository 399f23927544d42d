section
-- ===== PART A: goes FIRST, ahead of the names: the tables' words, and 'selects' of the private methods out of them =====
/-- a private method of a class that the tables say can be made, by its rows of tables_1 -/
def lw_okq (q : MethodName × Nat) : Prop := (q.1.cls ≠ "java/lang/invoke/MethodHandle" ∧ q.1.cls ≠ "java/lang/invoke/VarHandle") ∧ Cond.instantiable q.1.cls q.2 ∈ tables_1 ∧ Cond.privateMethod q.1 ∈ tables_1 ∧ Cond.instanceMethod q.1 ∈ tables_1
theorem lw_p0 : lw_okq (⟨"TopicSeams", "forgetText", "()V"⟩, 17) := ⟨⟨by decide +kernel, by decide +kernel⟩, List.mem_of_getElem? (i := 16) (by decide +kernel), List.mem_of_getElem? (i := 334) (by decide +kernel), List.mem_of_getElem? (i := 335) (by decide +kernel)⟩
theorem lw_p1 : lw_okq (⟨"TopicSeams", "readText", "()V"⟩, 17) := ⟨⟨by decide +kernel, by decide +kernel⟩, List.mem_of_getElem? (i := 16) (by decide +kernel), List.mem_of_getElem? (i := 350) (by decide +kernel), List.mem_of_getElem? (i := 351) (by decide +kernel)⟩
theorem lw_p2 : lw_okq (⟨"TopicSeams$Fault", "reasonAgainst", "(I)I"⟩, 7) := ⟨⟨by decide +kernel, by decide +kernel⟩, List.mem_of_getElem? (i := 43) (by decide +kernel), List.mem_of_getElem? (i := 358) (by decide +kernel), List.mem_of_getElem? (i := 359) (by decide +kernel)⟩
theorem lw_p3 : lw_okq (⟨"TopicSeams$Fault", "mayBegin", "()Z"⟩, 7) := ⟨⟨by decide +kernel, by decide +kernel⟩, List.mem_of_getElem? (i := 43) (by decide +kernel), List.mem_of_getElem? (i := 365) (by decide +kernel), List.mem_of_getElem? (i := 366) (by decide +kernel)⟩
theorem lw_p4 : lw_okq (⟨"TopicSeams$Fault", "keep", "(III)V"⟩, 7) := ⟨⟨by decide +kernel, by decide +kernel⟩, List.mem_of_getElem? (i := 43) (by decide +kernel), List.mem_of_getElem? (i := 369) (by decide +kernel), List.mem_of_getElem? (i := 370) (by decide +kernel)⟩
theorem lw_p5 : lw_okq (⟨"TopicSeams$Fault", "take", "(I)V"⟩, 7) := ⟨⟨by decide +kernel, by decide +kernel⟩, List.mem_of_getElem? (i := 43) (by decide +kernel), List.mem_of_getElem? (i := 373) (by decide +kernel), List.mem_of_getElem? (i := 374) (by decide +kernel)⟩
theorem lw_p6 : lw_okq (⟨"TopicSeams$Reading", "addWord", "(JII)V"⟩, 12) := ⟨⟨by decide +kernel, by decide +kernel⟩, List.mem_of_getElem? (i := 74) (by decide +kernel), List.mem_of_getElem? (i := 382) (by decide +kernel), List.mem_of_getElem? (i := 383) (by decide +kernel)⟩
theorem lw_p7 : lw_okq (⟨"TopicSeams$Reading", "numberOf", "(JI)I"⟩, 12) := ⟨⟨by decide +kernel, by decide +kernel⟩, List.mem_of_getElem? (i := 74) (by decide +kernel), List.mem_of_getElem? (i := 396) (by decide +kernel), List.mem_of_getElem? (i := 397) (by decide +kernel)⟩
theorem lw_p8 : lw_okq (⟨"TopicSeams", "finding", "(I)I"⟩, 17) := ⟨⟨by decide +kernel, by decide +kernel⟩, List.mem_of_getElem? (i := 16) (by decide +kernel), List.mem_of_getElem? (i := 423) (by decide +kernel), List.mem_of_getElem? (i := 424) (by decide +kernel)⟩
theorem lw_p9 : lw_okq (⟨"TopicSeams", "leadingBytes", "(I)I"⟩, 17) := ⟨⟨by decide +kernel, by decide +kernel⟩, List.mem_of_getElem? (i := 16) (by decide +kernel), List.mem_of_getElem? (i := 427) (by decide +kernel), List.mem_of_getElem? (i := 428) (by decide +kernel)⟩
theorem lw_p10 : lw_okq (⟨"TopicSeams", "noSentence", "(I)Z"⟩, 17) := ⟨⟨by decide +kernel, by decide +kernel⟩, List.mem_of_getElem? (i := 16) (by decide +kernel), List.mem_of_getElem? (i := 442) (by decide +kernel), List.mem_of_getElem? (i := 443) (by decide +kernel)⟩
theorem lw_p11 : lw_okq (⟨"TopicSeams", "noStem", "(I)Z"⟩, 17) := ⟨⟨by decide +kernel, by decide +kernel⟩, List.mem_of_getElem? (i := 16) (by decide +kernel), List.mem_of_getElem? (i := 462) (by decide +kernel), List.mem_of_getElem? (i := 463) (by decide +kernel)⟩
theorem lw_p12 : lw_okq (⟨"TopicSeams", "linkChains", "()V"⟩, 17) := ⟨⟨by decide +kernel, by decide +kernel⟩, List.mem_of_getElem? (i := 16) (by decide +kernel), List.mem_of_getElem? (i := 478) (by decide +kernel), List.mem_of_getElem? (i := 479) (by decide +kernel)⟩
theorem lw_p13 : lw_okq (⟨"TopicSeams$Chains", "linkStem", "(LTopicSeams$Reading;II)V"⟩, 5) := ⟨⟨by decide +kernel, by decide +kernel⟩, List.mem_of_getElem? (i := 142) (by decide +kernel), List.mem_of_getElem? (i := 486) (by decide +kernel), List.mem_of_getElem? (i := 487) (by decide +kernel)⟩
theorem lw_p14 : lw_okq (⟨"TopicSeams$Chains", "keep", "(IIII)V"⟩, 5) := ⟨⟨by decide +kernel, by decide +kernel⟩, List.mem_of_getElem? (i := 142) (by decide +kernel), List.mem_of_getElem? (i := 490) (by decide +kernel), List.mem_of_getElem? (i := 491) (by decide +kernel)⟩
theorem lw_p15 : lw_okq (⟨"TopicSeams", "noGap", "(I)Z"⟩, 17) := ⟨⟨by decide +kernel, by decide +kernel⟩, List.mem_of_getElem? (i := 16) (by decide +kernel), List.mem_of_getElem? (i := 506) (by decide +kernel), List.mem_of_getElem? (i := 507) (by decide +kernel)⟩
def lw_privs_1 : List (MethodName × Nat) := [(⟨"TopicSeams", "forgetText", "()V"⟩, 17), (⟨"TopicSeams", "readText", "()V"⟩, 17), (⟨"TopicSeams$Fault", "reasonAgainst", "(I)I"⟩, 7), (⟨"TopicSeams$Fault", "mayBegin", "()Z"⟩, 7), (⟨"TopicSeams$Fault", "keep", "(III)V"⟩, 7), (⟨"TopicSeams$Fault", "take", "(I)V"⟩, 7), (⟨"TopicSeams$Reading", "addWord", "(JII)V"⟩, 12), (⟨"TopicSeams$Reading", "numberOf", "(JI)I"⟩, 12), (⟨"TopicSeams", "finding", "(I)I"⟩, 17), (⟨"TopicSeams", "leadingBytes", "(I)I"⟩, 17), (⟨"TopicSeams", "noSentence", "(I)Z"⟩, 17), (⟨"TopicSeams", "noStem", "(I)Z"⟩, 17), (⟨"TopicSeams", "linkChains", "()V"⟩, 17), (⟨"TopicSeams$Chains", "linkStem", "(LTopicSeams$Reading;II)V"⟩, 5), (⟨"TopicSeams$Chains", "keep", "(IIII)V"⟩, 5), (⟨"TopicSeams", "noGap", "(I)Z"⟩, 17)]
theorem lw_r1 : ∀ q ∈ lw_privs_1, lw_okq q := List.forall_mem_cons.mpr ⟨lw_p0, List.forall_mem_cons.mpr ⟨lw_p1, List.forall_mem_cons.mpr ⟨lw_p2, List.forall_mem_cons.mpr ⟨lw_p3, List.forall_mem_cons.mpr ⟨lw_p4, List.forall_mem_cons.mpr ⟨lw_p5, List.forall_mem_cons.mpr ⟨lw_p6, List.forall_mem_cons.mpr ⟨lw_p7, List.forall_mem_cons.mpr ⟨lw_p8, List.forall_mem_cons.mpr ⟨lw_p9, List.forall_mem_cons.mpr ⟨lw_p10, List.forall_mem_cons.mpr ⟨lw_p11, List.forall_mem_cons.mpr ⟨lw_p12, List.forall_mem_cons.mpr ⟨lw_p13, List.forall_mem_cons.mpr ⟨lw_p14, List.forall_mem_cons.mpr ⟨lw_p15, fun _ h => absurd h List.not_mem_nil⟩⟩⟩⟩⟩⟩⟩⟩⟩⟩⟩⟩⟩⟩⟩⟩
theorem lw_p16 : lw_okq (⟨"TopicSeams$Chains", "goesOver", "(II)Z"⟩, 5) := ⟨⟨by decide +kernel, by decide +kernel⟩, List.mem_of_getElem? (i := 142) (by decide +kernel), List.mem_of_getElem? (i := 514) (by decide +kernel), List.mem_of_getElem? (i := 515) (by decide +kernel)⟩
theorem lw_p17 : lw_okq (⟨"TopicSeams", "partText", "()V"⟩, 17) := ⟨⟨by decide +kernel, by decide +kernel⟩, List.mem_of_getElem? (i := 16) (by decide +kernel), List.mem_of_getElem? (i := 527) (by decide +kernel), List.mem_of_getElem? (i := 528) (by decide +kernel)⟩
theorem lw_p18 : lw_okq (⟨"TopicSeams$Blocks", "startBlock", "(I)V"⟩, 5) := ⟨⟨by decide +kernel, by decide +kernel⟩, List.mem_of_getElem? (i := 169) (by decide +kernel), List.mem_of_getElem? (i := 535) (by decide +kernel), List.mem_of_getElem? (i := 536) (by decide +kernel)⟩
theorem lw_p19 : lw_okq (⟨"TopicSeams$Blocks", "addSentence", "(LTopicSeams$Reading;I)V"⟩, 5) := ⟨⟨by decide +kernel, by decide +kernel⟩, List.mem_of_getElem? (i := 169) (by decide +kernel), List.mem_of_getElem? (i := 539) (by decide +kernel), List.mem_of_getElem? (i := 540) (by decide +kernel)⟩
theorem lw_p20 : lw_okq (⟨"TopicSeams$Blocks", "price", "(I)I"⟩, 5) := ⟨⟨by decide +kernel, by decide +kernel⟩, List.mem_of_getElem? (i := 169) (by decide +kernel), List.mem_of_getElem? (i := 543) (by decide +kernel), List.mem_of_getElem? (i := 544) (by decide +kernel)⟩
theorem lw_p21 : lw_okq (⟨"TopicSeams$Partings", "chooseLastBlock", "([[III)V"⟩, 2) := ⟨⟨by decide +kernel, by decide +kernel⟩, List.mem_of_getElem? (i := 194) (by decide +kernel), List.mem_of_getElem? (i := 551) (by decide +kernel), List.mem_of_getElem? (i := 552) (by decide +kernel)⟩
theorem lw_p22 : lw_okq (⟨"TopicSeams", "dropSentences", "()V"⟩, 17) := ⟨⟨by decide +kernel, by decide +kernel⟩, List.mem_of_getElem? (i := 16) (by decide +kernel), List.mem_of_getElem? (i := 586) (by decide +kernel), List.mem_of_getElem? (i := 587) (by decide +kernel)⟩
theorem lw_p23 : lw_okq (⟨"TopicSeams$Drops", "weigh", "(III)V"⟩, 4) := ⟨⟨by decide +kernel, by decide +kernel⟩, List.mem_of_getElem? (i := 208) (by decide +kernel), List.mem_of_getElem? (i := 597) (by decide +kernel), List.mem_of_getElem? (i := 598) (by decide +kernel)⟩
theorem lw_p24 : lw_okq (⟨"TopicSeams", "weighGaps", "()V"⟩, 17) := ⟨⟨by decide +kernel, by decide +kernel⟩, List.mem_of_getElem? (i := 16) (by decide +kernel), List.mem_of_getElem? (i := 605) (by decide +kernel), List.mem_of_getElem? (i := 606) (by decide +kernel)⟩
theorem lw_p25 : lw_okq (⟨"TopicSeams$Gaps", "leftHill", "(I)I"⟩, 3) := ⟨⟨by decide +kernel, by decide +kernel⟩, List.mem_of_getElem? (i := 233) (by decide +kernel), List.mem_of_getElem? (i := 623) (by decide +kernel), List.mem_of_getElem? (i := 624) (by decide +kernel)⟩
theorem lw_p26 : lw_okq (⟨"TopicSeams$Gaps", "rightHill", "(II)I"⟩, 3) := ⟨⟨by decide +kernel, by decide +kernel⟩, List.mem_of_getElem? (i := 233) (by decide +kernel), List.mem_of_getElem? (i := 627) (by decide +kernel), List.mem_of_getElem? (i := 628) (by decide +kernel)⟩
theorem lw_p27 : lw_okq (⟨"TopicSeams$Gaps", "insert", "(I)V"⟩, 3) := ⟨⟨by decide +kernel, by decide +kernel⟩, List.mem_of_getElem? (i := 233) (by decide +kernel), List.mem_of_getElem? (i := 631) (by decide +kernel), List.mem_of_getElem? (i := 632) (by decide +kernel)⟩
theorem lw_p28 : lw_okq (⟨"TopicSeams", "mixSentence", "(JI)J"⟩, 17) := ⟨⟨by decide +kernel, by decide +kernel⟩, List.mem_of_getElem? (i := 16) (by decide +kernel), List.mem_of_getElem? (i := 719) (by decide +kernel), List.mem_of_getElem? (i := 720) (by decide +kernel)⟩
theorem lw_p29 : lw_okq (⟨"TopicSeams", "mixStem", "(JI)J"⟩, 17) := ⟨⟨by decide +kernel, by decide +kernel⟩, List.mem_of_getElem? (i := 16) (by decide +kernel), List.mem_of_getElem? (i := 728) (by decide +kernel), List.mem_of_getElem? (i := 729) (by decide +kernel)⟩
theorem lw_p30 : lw_okq (⟨"TopicSeams", "mixParting", "(JI)J"⟩, 17) := ⟨⟨by decide +kernel, by decide +kernel⟩, List.mem_of_getElem? (i := 16) (by decide +kernel), List.mem_of_getElem? (i := 736) (by decide +kernel), List.mem_of_getElem? (i := 737) (by decide +kernel)⟩
theorem lw_p31 : lw_okq (⟨"TopicSeamsModel", "meets", "(I)I"⟩, 37) := ⟨⟨by decide +kernel, by decide +kernel⟩, List.mem_of_getElem? (i := 745) (by decide +kernel), List.mem_of_getElem? (i := 897) (by decide +kernel), List.mem_of_getElem? (i := 898) (by decide +kernel)⟩
def lw_privs_2 : List (MethodName × Nat) := [(⟨"TopicSeams$Chains", "goesOver", "(II)Z"⟩, 5), (⟨"TopicSeams", "partText", "()V"⟩, 17), (⟨"TopicSeams$Blocks", "startBlock", "(I)V"⟩, 5), (⟨"TopicSeams$Blocks", "addSentence", "(LTopicSeams$Reading;I)V"⟩, 5), (⟨"TopicSeams$Blocks", "price", "(I)I"⟩, 5), (⟨"TopicSeams$Partings", "chooseLastBlock", "([[III)V"⟩, 2), (⟨"TopicSeams", "dropSentences", "()V"⟩, 17), (⟨"TopicSeams$Drops", "weigh", "(III)V"⟩, 4), (⟨"TopicSeams", "weighGaps", "()V"⟩, 17), (⟨"TopicSeams$Gaps", "leftHill", "(I)I"⟩, 3), (⟨"TopicSeams$Gaps", "rightHill", "(II)I"⟩, 3), (⟨"TopicSeams$Gaps", "insert", "(I)V"⟩, 3), (⟨"TopicSeams", "mixSentence", "(JI)J"⟩, 17), (⟨"TopicSeams", "mixStem", "(JI)J"⟩, 17), (⟨"TopicSeams", "mixParting", "(JI)J"⟩, 17), (⟨"TopicSeamsModel", "meets", "(I)I"⟩, 37)]
theorem lw_r2 : ∀ q ∈ lw_privs_2, lw_okq q := List.forall_mem_cons.mpr ⟨lw_p16, List.forall_mem_cons.mpr ⟨lw_p17, List.forall_mem_cons.mpr ⟨lw_p18, List.forall_mem_cons.mpr ⟨lw_p19, List.forall_mem_cons.mpr ⟨lw_p20, List.forall_mem_cons.mpr ⟨lw_p21, List.forall_mem_cons.mpr ⟨lw_p22, List.forall_mem_cons.mpr ⟨lw_p23, List.forall_mem_cons.mpr ⟨lw_p24, List.forall_mem_cons.mpr ⟨lw_p25, List.forall_mem_cons.mpr ⟨lw_p26, List.forall_mem_cons.mpr ⟨lw_p27, List.forall_mem_cons.mpr ⟨lw_p28, List.forall_mem_cons.mpr ⟨lw_p29, List.forall_mem_cons.mpr ⟨lw_p30, List.forall_mem_cons.mpr ⟨lw_p31, fun _ h => absurd h List.not_mem_nil⟩⟩⟩⟩⟩⟩⟩⟩⟩⟩⟩⟩⟩⟩⟩⟩
theorem lw_p32 : lw_okq (⟨"TopicSeamsModel", "faultOf", "(I)I"⟩, 37) := ⟨⟨by decide +kernel, by decide +kernel⟩, List.mem_of_getElem? (i := 745) (by decide +kernel), List.mem_of_getElem? (i := 906) (by decide +kernel), List.mem_of_getElem? (i := 907) (by decide +kernel)⟩
theorem lw_p33 : lw_okq (⟨"TopicSeamsModel", "reads", "()V"⟩, 37) := ⟨⟨by decide +kernel, by decide +kernel⟩, List.mem_of_getElem? (i := 745) (by decide +kernel), List.mem_of_getElem? (i := 910) (by decide +kernel), List.mem_of_getElem? (i := 911) (by decide +kernel)⟩
theorem lw_p34 : lw_okq (⟨"TopicSeamsModel", "readsText", "()V"⟩, 37) := ⟨⟨by decide +kernel, by decide +kernel⟩, List.mem_of_getElem? (i := 745) (by decide +kernel), List.mem_of_getElem? (i := 914) (by decide +kernel), List.mem_of_getElem? (i := 915) (by decide +kernel)⟩
theorem lw_p35 : lw_okq (⟨"TopicSeamsModel", "whyNot", "(IIII)I"⟩, 37) := ⟨⟨by decide +kernel, by decide +kernel⟩, List.mem_of_getElem? (i := 745) (by decide +kernel), List.mem_of_getElem? (i := 918) (by decide +kernel), List.mem_of_getElem? (i := 919) (by decide +kernel)⟩
theorem lw_p36 : lw_okq (⟨"TopicSeamsModel", "fails", "(II)V"⟩, 37) := ⟨⟨by decide +kernel, by decide +kernel⟩, List.mem_of_getElem? (i := 745) (by decide +kernel), List.mem_of_getElem? (i := 922) (by decide +kernel), List.mem_of_getElem? (i := 923) (by decide +kernel)⟩
theorem lw_p37 : lw_okq (⟨"TopicSeamsModel", "begins", "(II)V"⟩, 37) := ⟨⟨by decide +kernel, by decide +kernel⟩, List.mem_of_getElem? (i := 745) (by decide +kernel), List.mem_of_getElem? (i := 926) (by decide +kernel), List.mem_of_getElem? (i := 927) (by decide +kernel)⟩
theorem lw_p38 : lw_okq (⟨"TopicSeamsModel", "longOf", "(I)I"⟩, 37) := ⟨⟨by decide +kernel, by decide +kernel⟩, List.mem_of_getElem? (i := 745) (by decide +kernel), List.mem_of_getElem? (i := 930) (by decide +kernel), List.mem_of_getElem? (i := 931) (by decide +kernel)⟩
theorem lw_p39 : lw_okq (⟨"TopicSeamsModel", "endsWith", "(III)Z"⟩, 37) := ⟨⟨by decide +kernel, by decide +kernel⟩, List.mem_of_getElem? (i := 745) (by decide +kernel), List.mem_of_getElem? (i := 934) (by decide +kernel), List.mem_of_getElem? (i := 935) (by decide +kernel)⟩
theorem lw_p40 : lw_okq (⟨"TopicSeamsModel", "isLike", "(III)Z"⟩, 37) := ⟨⟨by decide +kernel, by decide +kernel⟩, List.mem_of_getElem? (i := 745) (by decide +kernel), List.mem_of_getElem? (i := 938) (by decide +kernel), List.mem_of_getElem? (i := 939) (by decide +kernel)⟩
theorem lw_p41 : lw_okq (⟨"TopicSeamsModel", "isSentence", "(I)Z"⟩, 37) := ⟨⟨by decide +kernel, by decide +kernel⟩, List.mem_of_getElem? (i := 745) (by decide +kernel), List.mem_of_getElem? (i := 946) (by decide +kernel), List.mem_of_getElem? (i := 947) (by decide +kernel)⟩
theorem lw_p42 : lw_okq (⟨"TopicSeamsModel", "sentenceOf", "(II)I"⟩, 37) := ⟨⟨by decide +kernel, by decide +kernel⟩, List.mem_of_getElem? (i := 745) (by decide +kernel), List.mem_of_getElem? (i := 950) (by decide +kernel), List.mem_of_getElem? (i := 951) (by decide +kernel)⟩
theorem lw_p43 : lw_okq (⟨"TopicSeamsModel", "looksOver", "(II)V"⟩, 37) := ⟨⟨by decide +kernel, by decide +kernel⟩, List.mem_of_getElem? (i := 745) (by decide +kernel), List.mem_of_getElem? (i := 954) (by decide +kernel), List.mem_of_getElem? (i := 955) (by decide +kernel)⟩
theorem lw_p44 : lw_okq (⟨"TopicSeamsModel", "wordOf", "(II)I"⟩, 37) := ⟨⟨by decide +kernel, by decide +kernel⟩, List.mem_of_getElem? (i := 745) (by decide +kernel), List.mem_of_getElem? (i := 962) (by decide +kernel), List.mem_of_getElem? (i := 963) (by decide +kernel)⟩
theorem lw_p45 : lw_okq (⟨"TopicSeamsModel", "isStem", "(I)Z"⟩, 37) := ⟨⟨by decide +kernel, by decide +kernel⟩, List.mem_of_getElem? (i := 745) (by decide +kernel), List.mem_of_getElem? (i := 970) (by decide +kernel), List.mem_of_getElem? (i := 971) (by decide +kernel)⟩
theorem lw_p46 : lw_okq (⟨"TopicSeamsModel", "stemOf", "(II)I"⟩, 37) := ⟨⟨by decide +kernel, by decide +kernel⟩, List.mem_of_getElem? (i := 745) (by decide +kernel), List.mem_of_getElem? (i := 974) (by decide +kernel), List.mem_of_getElem? (i := 975) (by decide +kernel)⟩
theorem lw_p47 : lw_okq (⟨"TopicSeamsModel", "letterOf", "(II)I"⟩, 37) := ⟨⟨by decide +kernel, by decide +kernel⟩, List.mem_of_getElem? (i := 745) (by decide +kernel), List.mem_of_getElem? (i := 982) (by decide +kernel), List.mem_of_getElem? (i := 983) (by decide +kernel)⟩
def lw_privs_3 : List (MethodName × Nat) := [(⟨"TopicSeamsModel", "faultOf", "(I)I"⟩, 37), (⟨"TopicSeamsModel", "reads", "()V"⟩, 37), (⟨"TopicSeamsModel", "readsText", "()V"⟩, 37), (⟨"TopicSeamsModel", "whyNot", "(IIII)I"⟩, 37), (⟨"TopicSeamsModel", "fails", "(II)V"⟩, 37), (⟨"TopicSeamsModel", "begins", "(II)V"⟩, 37), (⟨"TopicSeamsModel", "longOf", "(I)I"⟩, 37), (⟨"TopicSeamsModel", "endsWith", "(III)Z"⟩, 37), (⟨"TopicSeamsModel", "isLike", "(III)Z"⟩, 37), (⟨"TopicSeamsModel", "isSentence", "(I)Z"⟩, 37), (⟨"TopicSeamsModel", "sentenceOf", "(II)I"⟩, 37), (⟨"TopicSeamsModel", "looksOver", "(II)V"⟩, 37), (⟨"TopicSeamsModel", "wordOf", "(II)I"⟩, 37), (⟨"TopicSeamsModel", "isStem", "(I)Z"⟩, 37), (⟨"TopicSeamsModel", "stemOf", "(II)I"⟩, 37), (⟨"TopicSeamsModel", "letterOf", "(II)I"⟩, 37)]
theorem lw_r3 : ∀ q ∈ lw_privs_3, lw_okq q := List.forall_mem_cons.mpr ⟨lw_p32, List.forall_mem_cons.mpr ⟨lw_p33, List.forall_mem_cons.mpr ⟨lw_p34, List.forall_mem_cons.mpr ⟨lw_p35, List.forall_mem_cons.mpr ⟨lw_p36, List.forall_mem_cons.mpr ⟨lw_p37, List.forall_mem_cons.mpr ⟨lw_p38, List.forall_mem_cons.mpr ⟨lw_p39, List.forall_mem_cons.mpr ⟨lw_p40, List.forall_mem_cons.mpr ⟨lw_p41, List.forall_mem_cons.mpr ⟨lw_p42, List.forall_mem_cons.mpr ⟨lw_p43, List.forall_mem_cons.mpr ⟨lw_p44, List.forall_mem_cons.mpr ⟨lw_p45, List.forall_mem_cons.mpr ⟨lw_p46, List.forall_mem_cons.mpr ⟨lw_p47, fun _ h => absurd h List.not_mem_nil⟩⟩⟩⟩⟩⟩⟩⟩⟩⟩⟩⟩⟩⟩⟩⟩
theorem lw_p48 : lw_okq (⟨"TopicSeamsModel", "chainsOf", "()I"⟩, 37) := ⟨⟨by decide +kernel, by decide +kernel⟩, List.mem_of_getElem? (i := 745) (by decide +kernel), List.mem_of_getElem? (i := 990) (by decide +kernel), List.mem_of_getElem? (i := 991) (by decide +kernel)⟩
theorem lw_p49 : lw_okq (⟨"TopicSeamsModel", "findsChains", "()V"⟩, 37) := ⟨⟨by decide +kernel, by decide +kernel⟩, List.mem_of_getElem? (i := 745) (by decide +kernel), List.mem_of_getElem? (i := 994) (by decide +kernel), List.mem_of_getElem? (i := 995) (by decide +kernel)⟩
theorem lw_p50 : lw_okq (⟨"TopicSeamsModel", "ends", "(IIII)V"⟩, 37) := ⟨⟨by decide +kernel, by decide +kernel⟩, List.mem_of_getElem? (i := 745) (by decide +kernel), List.mem_of_getElem? (i := 998) (by decide +kernel), List.mem_of_getElem? (i := 999) (by decide +kernel)⟩
theorem lw_p51 : lw_okq (⟨"TopicSeamsModel", "chainOf", "(II)I"⟩, 37) := ⟨⟨by decide +kernel, by decide +kernel⟩, List.mem_of_getElem? (i := 745) (by decide +kernel), List.mem_of_getElem? (i := 1006) (by decide +kernel), List.mem_of_getElem? (i := 1007) (by decide +kernel)⟩
theorem lw_p52 : lw_okq (⟨"TopicSeamsModel", "weight", "(I)I"⟩, 37) := ⟨⟨by decide +kernel, by decide +kernel⟩, List.mem_of_getElem? (i := 745) (by decide +kernel), List.mem_of_getElem? (i := 1010) (by decide +kernel), List.mem_of_getElem? (i := 1011) (by decide +kernel)⟩
theorem lw_p53 : lw_okq (⟨"TopicSeamsModel", "isGap", "(I)Z"⟩, 37) := ⟨⟨by decide +kernel, by decide +kernel⟩, List.mem_of_getElem? (i := 745) (by decide +kernel), List.mem_of_getElem? (i := 1018) (by decide +kernel), List.mem_of_getElem? (i := 1019) (by decide +kernel)⟩
theorem lw_p54 : lw_okq (⟨"TopicSeamsModel", "overOf", "(II)I"⟩, 37) := ⟨⟨by decide +kernel, by decide +kernel⟩, List.mem_of_getElem? (i := 745) (by decide +kernel), List.mem_of_getElem? (i := 1025) (by decide +kernel), List.mem_of_getElem? (i := 1026) (by decide +kernel)⟩
theorem lw_p55 : lw_okq (⟨"TopicSeamsModel", "costOf", "(II)I"⟩, 37) := ⟨⟨by decide +kernel, by decide +kernel⟩, List.mem_of_getElem? (i := 745) (by decide +kernel), List.mem_of_getElem? (i := 1033) (by decide +kernel), List.mem_of_getElem? (i := 1034) (by decide +kernel)⟩
theorem lw_p56 : lw_okq (⟨"TopicSeamsModel", "costNow", "(II)I"⟩, 37) := ⟨⟨by decide +kernel, by decide +kernel⟩, List.mem_of_getElem? (i := 745) (by decide +kernel), List.mem_of_getElem? (i := 1037) (by decide +kernel), List.mem_of_getElem? (i := 1038) (by decide +kernel)⟩
theorem lw_p57 : lw_okq (⟨"TopicSeamsModel", "bestOf", "(I)I"⟩, 37) := ⟨⟨by decide +kernel, by decide +kernel⟩, List.mem_of_getElem? (i := 745) (by decide +kernel), List.mem_of_getElem? (i := 1048) (by decide +kernel), List.mem_of_getElem? (i := 1049) (by decide +kernel)⟩
theorem lw_p58 : lw_okq (⟨"TopicSeamsModel", "partsTold", "()V"⟩, 37) := ⟨⟨by decide +kernel, by decide +kernel⟩, List.mem_of_getElem? (i := 745) (by decide +kernel), List.mem_of_getElem? (i := 1052) (by decide +kernel), List.mem_of_getElem? (i := 1053) (by decide +kernel)⟩
theorem lw_p59 : lw_okq (⟨"TopicSeamsModel", "parts", "()V"⟩, 37) := ⟨⟨by decide +kernel, by decide +kernel⟩, List.mem_of_getElem? (i := 745) (by decide +kernel), List.mem_of_getElem? (i := 1056) (by decide +kernel), List.mem_of_getElem? (i := 1057) (by decide +kernel)⟩
theorem lw_p60 : lw_okq (⟨"TopicSeamsModel", "placeOf", "(I)I"⟩, 37) := ⟨⟨by decide +kernel, by decide +kernel⟩, List.mem_of_getElem? (i := 745) (by decide +kernel), List.mem_of_getElem? (i := 1060) (by decide +kernel), List.mem_of_getElem? (i := 1061) (by decide +kernel)⟩
theorem lw_p61 : lw_okq (⟨"TopicSeamsModel", "totalNow", "(I)I"⟩, 37) := ⟨⟨by decide +kernel, by decide +kernel⟩, List.mem_of_getElem? (i := 745) (by decide +kernel), List.mem_of_getElem? (i := 1064) (by decide +kernel), List.mem_of_getElem? (i := 1065) (by decide +kernel)⟩
theorem lw_p62 : lw_okq (⟨"TopicSeamsModel", "seamOf", "(II)I"⟩, 37) := ⟨⟨by decide +kernel, by decide +kernel⟩, List.mem_of_getElem? (i := 745) (by decide +kernel), List.mem_of_getElem? (i := 1072) (by decide +kernel), List.mem_of_getElem? (i := 1073) (by decide +kernel)⟩
theorem lw_p63 : lw_okq (⟨"TopicSeamsModel", "seamNow", "(II)I"⟩, 37) := ⟨⟨by decide +kernel, by decide +kernel⟩, List.mem_of_getElem? (i := 745) (by decide +kernel), List.mem_of_getElem? (i := 1076) (by decide +kernel), List.mem_of_getElem? (i := 1077) (by decide +kernel)⟩
def lw_privs_4 : List (MethodName × Nat) := [(⟨"TopicSeamsModel", "chainsOf", "()I"⟩, 37), (⟨"TopicSeamsModel", "findsChains", "()V"⟩, 37), (⟨"TopicSeamsModel", "ends", "(IIII)V"⟩, 37), (⟨"TopicSeamsModel", "chainOf", "(II)I"⟩, 37), (⟨"TopicSeamsModel", "weight", "(I)I"⟩, 37), (⟨"TopicSeamsModel", "isGap", "(I)Z"⟩, 37), (⟨"TopicSeamsModel", "overOf", "(II)I"⟩, 37), (⟨"TopicSeamsModel", "costOf", "(II)I"⟩, 37), (⟨"TopicSeamsModel", "costNow", "(II)I"⟩, 37), (⟨"TopicSeamsModel", "bestOf", "(I)I"⟩, 37), (⟨"TopicSeamsModel", "partsTold", "()V"⟩, 37), (⟨"TopicSeamsModel", "parts", "()V"⟩, 37), (⟨"TopicSeamsModel", "placeOf", "(I)I"⟩, 37), (⟨"TopicSeamsModel", "totalNow", "(I)I"⟩, 37), (⟨"TopicSeamsModel", "seamOf", "(II)I"⟩, 37), (⟨"TopicSeamsModel", "seamNow", "(II)I"⟩, 37)]
theorem lw_r4 : ∀ q ∈ lw_privs_4, lw_okq q := List.forall_mem_cons.mpr ⟨lw_p48, List.forall_mem_cons.mpr ⟨lw_p49, List.forall_mem_cons.mpr ⟨lw_p50, List.forall_mem_cons.mpr ⟨lw_p51, List.forall_mem_cons.mpr ⟨lw_p52, List.forall_mem_cons.mpr ⟨lw_p53, List.forall_mem_cons.mpr ⟨lw_p54, List.forall_mem_cons.mpr ⟨lw_p55, List.forall_mem_cons.mpr ⟨lw_p56, List.forall_mem_cons.mpr ⟨lw_p57, List.forall_mem_cons.mpr ⟨lw_p58, List.forall_mem_cons.mpr ⟨lw_p59, List.forall_mem_cons.mpr ⟨lw_p60, List.forall_mem_cons.mpr ⟨lw_p61, List.forall_mem_cons.mpr ⟨lw_p62, List.forall_mem_cons.mpr ⟨lw_p63, fun _ h => absurd h List.not_mem_nil⟩⟩⟩⟩⟩⟩⟩⟩⟩⟩⟩⟩⟩⟩⟩⟩
theorem lw_p64 : lw_okq (⟨"TopicSeamsModel", "bentOf", "()I"⟩, 37) := ⟨⟨by decide +kernel, by decide +kernel⟩, List.mem_of_getElem? (i := 745) (by decide +kernel), List.mem_of_getElem? (i := 1084) (by decide +kernel), List.mem_of_getElem? (i := 1085) (by decide +kernel)⟩
theorem lw_p65 : lw_okq (⟨"TopicSeamsModel", "dropOf", "(II)I"⟩, 37) := ⟨⟨by decide +kernel, by decide +kernel⟩, List.mem_of_getElem? (i := 745) (by decide +kernel), List.mem_of_getElem? (i := 1092) (by decide +kernel), List.mem_of_getElem? (i := 1093) (by decide +kernel)⟩
theorem lw_p66 : lw_okq (⟨"TopicSeamsModel", "alike", "(I)I"⟩, 37) := ⟨⟨by decide +kernel, by decide +kernel⟩, List.mem_of_getElem? (i := 745) (by decide +kernel), List.mem_of_getElem? (i := 1100) (by decide +kernel), List.mem_of_getElem? (i := 1101) (by decide +kernel)⟩
theorem lw_p67 : lw_okq (⟨"TopicSeamsModel", "depth", "(I)I"⟩, 37) := ⟨⟨by decide +kernel, by decide +kernel⟩, List.mem_of_getElem? (i := 745) (by decide +kernel), List.mem_of_getElem? (i := 1104) (by decide +kernel), List.mem_of_getElem? (i := 1105) (by decide +kernel)⟩
theorem lw_p68 : lw_okq (⟨"TopicSeamsModel", "deepOf", "(I)I"⟩, 37) := ⟨⟨by decide +kernel, by decide +kernel⟩, List.mem_of_getElem? (i := 745) (by decide +kernel), List.mem_of_getElem? (i := 1112) (by decide +kernel), List.mem_of_getElem? (i := 1113) (by decide +kernel)⟩
theorem lw_p69 : lw_okq (⟨"TopicSeamsModel", "apartOf", "(II)I"⟩, 37) := ⟨⟨by decide +kernel, by decide +kernel⟩, List.mem_of_getElem? (i := 745) (by decide +kernel), List.mem_of_getElem? (i := 1123) (by decide +kernel), List.mem_of_getElem? (i := 1124) (by decide +kernel)⟩
theorem lw_p70 : lw_okq (⟨"TopicSeamsModel", "lacks", "(III)I"⟩, 37) := ⟨⟨by decide +kernel, by decide +kernel⟩, List.mem_of_getElem? (i := 745) (by decide +kernel), List.mem_of_getElem? (i := 1139) (by decide +kernel), List.mem_of_getElem? (i := 1140) (by decide +kernel)⟩
theorem lw_p71 : lw_okq (⟨"TopicSeamsModel", "keep", "(III)V"⟩, 37) := ⟨⟨by decide +kernel, by decide +kernel⟩, List.mem_of_getElem? (i := 745) (by decide +kernel), List.mem_of_getElem? (i := 1143) (by decide +kernel), List.mem_of_getElem? (i := 1144) (by decide +kernel)⟩
theorem lw_p72 : lw_okq (⟨"TopicSeamsModel", "tellOf", "(I)I"⟩, 37) := ⟨⟨by decide +kernel, by decide +kernel⟩, List.mem_of_getElem? (i := 745) (by decide +kernel), List.mem_of_getElem? (i := 1164) (by decide +kernel), List.mem_of_getElem? (i := 1165) (by decide +kernel)⟩
theorem lw_p73 : lw_okq (⟨"TopicSeamsModel", "sentenceDigest", "(JI)J"⟩, 37) := ⟨⟨by decide +kernel, by decide +kernel⟩, List.mem_of_getElem? (i := 745) (by decide +kernel), List.mem_of_getElem? (i := 1175) (by decide +kernel), List.mem_of_getElem? (i := 1176) (by decide +kernel)⟩
theorem lw_p74 : lw_okq (⟨"TopicSeamsModel", "stemDigest", "(JI)J"⟩, 37) := ⟨⟨by decide +kernel, by decide +kernel⟩, List.mem_of_getElem? (i := 745) (by decide +kernel), List.mem_of_getElem? (i := 1184) (by decide +kernel), List.mem_of_getElem? (i := 1185) (by decide +kernel)⟩
theorem lw_p75 : lw_okq (⟨"TopicSeamsModel", "partsDigest", "(JI)J"⟩, 37) := ⟨⟨by decide +kernel, by decide +kernel⟩, List.mem_of_getElem? (i := 745) (by decide +kernel), List.mem_of_getElem? (i := 1188) (by decide +kernel), List.mem_of_getElem? (i := 1189) (by decide +kernel)⟩
def lw_privs_5 : List (MethodName × Nat) := [(⟨"TopicSeamsModel", "bentOf", "()I"⟩, 37), (⟨"TopicSeamsModel", "dropOf", "(II)I"⟩, 37), (⟨"TopicSeamsModel", "alike", "(I)I"⟩, 37), (⟨"TopicSeamsModel", "depth", "(I)I"⟩, 37), (⟨"TopicSeamsModel", "deepOf", "(I)I"⟩, 37), (⟨"TopicSeamsModel", "apartOf", "(II)I"⟩, 37), (⟨"TopicSeamsModel", "lacks", "(III)I"⟩, 37), (⟨"TopicSeamsModel", "keep", "(III)V"⟩, 37), (⟨"TopicSeamsModel", "tellOf", "(I)I"⟩, 37), (⟨"TopicSeamsModel", "sentenceDigest", "(JI)J"⟩, 37), (⟨"TopicSeamsModel", "stemDigest", "(JI)J"⟩, 37), (⟨"TopicSeamsModel", "partsDigest", "(JI)J"⟩, 37)]
theorem lw_r5 : ∀ q ∈ lw_privs_5, lw_okq q := List.forall_mem_cons.mpr ⟨lw_p64, List.forall_mem_cons.mpr ⟨lw_p65, List.forall_mem_cons.mpr ⟨lw_p66, List.forall_mem_cons.mpr ⟨lw_p67, List.forall_mem_cons.mpr ⟨lw_p68, List.forall_mem_cons.mpr ⟨lw_p69, List.forall_mem_cons.mpr ⟨lw_p70, List.forall_mem_cons.mpr ⟨lw_p71, List.forall_mem_cons.mpr ⟨lw_p72, List.forall_mem_cons.mpr ⟨lw_p73, List.forall_mem_cons.mpr ⟨lw_p74, List.forall_mem_cons.mpr ⟨lw_p75, fun _ h => absurd h List.not_mem_nil⟩⟩⟩⟩⟩⟩⟩⟩⟩⟩⟩⟩
def lw_privs : List (MethodName × Nat) := lw_privs_1 ++ (lw_privs_2 ++ (lw_privs_3 ++ (lw_privs_4 ++ (lw_privs_5))))
def lw_tbl : List Cond := k2_sels lw_privs ++ tables_1
theorem lw_privs_ok : ∀ q ∈ lw_privs, lw_okq q := by
  show ∀ q ∈ lw_privs_1 ++ (lw_privs_2 ++ (lw_privs_3 ++ (lw_privs_4 ++ (lw_privs_5)))), lw_okq q
  exact List.forall_mem_append.mpr ⟨lw_r1, List.forall_mem_append.mpr ⟨lw_r2, List.forall_mem_append.mpr ⟨lw_r3, List.forall_mem_append.mpr ⟨lw_r4, lw_r5⟩⟩⟩⟩
-- ===== end of PART A; then your names; then what follows =====
end
section
def RX0 : String := "TopicSeams$Blocks"
def TX0 : u_T := fun k => match k with
  | 0 => ("TopicSeams$Blocks", "costs", "[[I", true)
  | 1 => ("TopicSeams$Blocks", "seen", "[I", true)
  | 2 => ("TopicSeams$Blocks", "words", "I", false)
  | 3 => ("TopicSeams$Blocks", "unlike", "I", false)
  | _ => ("TopicSeams$Blocks", "once", "I", false)
def tyX0 : Nat → FieldType := fun k => match k with
  | 0 => .array (.array .int)
  | 1 => .array .int
  | 2 => .int
  | 3 => .int
  | _ => .int
abbrev wsX00 : List Cond := u_ws RX0 TX0 5
theorem nmX0 : ∀ a, a < 5 → ∀ b, b < 5 → a ≠ b → (TX0 a).2.1 ≠ (TX0 b).2.1 := by decide +kernel
theorem tyX0_ok : ∀ k, k < 5 → parseFieldDescriptor (TX0 k).2.2.1 = some (tyX0 k) := by decide +kernel
abbrev cX0_init : ByteArray := prog_2_method_1_code
def yX0_init : MethodName := ⟨RX0, "<init>", "()V"⟩
abbrev cX0_fill : ByteArray := prog_2_method_2_code
def yX0_fill : MethodName := ⟨RX0, "fill", "(LTopicSeams$Reading;III)V"⟩
abbrev cX0_startBlock : ByteArray := prog_2_method_3_code
def yX0_startBlock : MethodName := ⟨RX0, "startBlock", "(I)V"⟩
abbrev cX0_addSentence : ByteArray := prog_2_method_4_code
def yX0_addSentence : MethodName := ⟨RX0, "addSentence", "(LTopicSeams$Reading;I)V"⟩
abbrev cX0_price : ByteArray := prog_2_method_5_code
def yX0_price : MethodName := ⟨RX0, "price", "(I)I"⟩
def RX1 : String := "TopicSeams$Chains"
def TX1 : u_T := fun k => match k with
  | 0 => ("TopicSeams$Chains", "size", "I", false)
  | 1 => ("TopicSeams$Chains", "stemOf", "[I", true)
  | 2 => ("TopicSeams$Chains", "firstOf", "[I", true)
  | 3 => ("TopicSeams$Chains", "lastOf", "[I", true)
  | _ => ("TopicSeams$Chains", "wordsOf", "[I", true)
def tyX1 : Nat → FieldType := fun k => match k with
  | 0 => .int
  | 1 => .array .int
  | 2 => .array .int
  | 3 => .array .int
  | _ => .array .int
abbrev wsX10 : List Cond := u_ws RX1 TX1 5
theorem nmX1 : ∀ a, a < 5 → ∀ b, b < 5 → a ≠ b → (TX1 a).2.1 ≠ (TX1 b).2.1 := by decide +kernel
theorem tyX1_ok : ∀ k, k < 5 → parseFieldDescriptor (TX1 k).2.2.1 = some (tyX1 k) := by decide +kernel
abbrev cX1_init : ByteArray := prog_3_method_1_code
def yX1_init : MethodName := ⟨RX1, "<init>", "()V"⟩
abbrev cX1_fill : ByteArray := prog_3_method_2_code
def yX1_fill : MethodName := ⟨RX1, "fill", "(LTopicSeams$Reading;I)V"⟩
abbrev cX1_linkStem : ByteArray := prog_3_method_3_code
def yX1_linkStem : MethodName := ⟨RX1, "linkStem", "(LTopicSeams$Reading;II)V"⟩
abbrev cX1_keep : ByteArray := prog_3_method_4_code
def yX1_keep : MethodName := ⟨RX1, "keep", "(IIII)V"⟩
abbrev cX1_weightOf : ByteArray := prog_3_method_5_code
def yX1_weightOf : MethodName := ⟨RX1, "weightOf", "(I)I"⟩
abbrev cX1_goesOver : ByteArray := prog_3_method_6_code
def yX1_goesOver : MethodName := ⟨RX1, "goesOver", "(II)Z"⟩
abbrev cX1_numberOver : ByteArray := prog_3_method_7_code
def yX1_numberOver : MethodName := ⟨RX1, "numberOver", "(I)I"⟩
abbrev cX1_weightOver : ByteArray := prog_3_method_8_code
def yX1_weightOver : MethodName := ⟨RX1, "weightOver", "(I)I"⟩
def RX2 : String := "TopicSeams$Drops"
def TX2 : u_T := fun k => match k with
  | 0 => ("TopicSeams$Drops", "which", "[I", true)
  | 1 => ("TopicSeams$Drops", "howMuch", "[I", true)
  | 2 => ("TopicSeams$Drops", "blocks", "LTopicSeams$Blocks;", true)
  | _ => ("TopicSeams$Drops", "partings", "LTopicSeams$Partings;", true)
def tyX2 : Nat → FieldType := fun k => match k with
  | 0 => .array .int
  | 1 => .array .int
  | 2 => .object "TopicSeams$Blocks"
  | _ => .object "TopicSeams$Partings"
abbrev wsX20 : List Cond := u_ws RX2 TX2 4
theorem nmX2 : ∀ a, a < 4 → ∀ b, b < 4 → a ≠ b → (TX2 a).2.1 ≠ (TX2 b).2.1 := by decide +kernel
theorem tyX2_ok : ∀ k, k < 4 → parseFieldDescriptor (TX2 k).2.2.1 = some (tyX2 k) := by decide +kernel
abbrev cX2_init : ByteArray := prog_4_method_1_code
def yX2_init : MethodName := ⟨RX2, "<init>", "()V"⟩
abbrev cX2_fill : ByteArray := prog_4_method_2_code
def yX2_fill : MethodName := ⟨RX2, "fill", "(LTopicSeams$Reading;II)V"⟩
abbrev cX2_weigh : ByteArray := prog_4_method_3_code
def yX2_weigh : MethodName := ⟨RX2, "weigh", "(III)V"⟩
def RX3 : String := "TopicSeams$Fault"
def TX3 : u_T := fun k => match k with
  | 0 => ("TopicSeams$Fault", "place", "I", false)
  | 1 => ("TopicSeams$Fault", "reason", "I", false)
  | 2 => ("TopicSeams$Fault", "inSentence", "I", false)
  | 3 => ("TopicSeams$Fault", "letters", "I", false)
  | 4 => ("TopicSeams$Fault", "words", "I", false)
  | 5 => ("TopicSeams$Fault", "sentences", "I", false)
  | _ => ("TopicSeams$Fault", "behindDot", "Z", false)
def tyX3 : Nat → FieldType := fun k => match k with
  | 0 => .int
  | 1 => .int
  | 2 => .int
  | 3 => .int
  | 4 => .int
  | 5 => .int
  | _ => .boolean
abbrev wsX30 : List Cond := u_ws RX3 TX3 7
theorem nmX3 : ∀ a, a < 7 → ∀ b, b < 7 → a ≠ b → (TX3 a).2.1 ≠ (TX3 b).2.1 := by decide +kernel
theorem tyX3_ok : ∀ k, k < 7 → parseFieldDescriptor (TX3 k).2.2.1 = some (tyX3 k) := by decide +kernel
abbrev cX3_init : ByteArray := prog_5_method_1_code
def yX3_init : MethodName := ⟨RX3, "<init>", "()V"⟩
abbrev cX3_seek : ByteArray := prog_5_method_2_code
def yX3_seek : MethodName := ⟨RX3, "seek", "(LTopicSeams$Text;)V"⟩
abbrev cX3_keep : ByteArray := prog_5_method_3_code
def yX3_keep : MethodName := ⟨RX3, "keep", "(III)V"⟩
abbrev cX3_reasonAgainst : ByteArray := prog_5_method_4_code
def yX3_reasonAgainst : MethodName := ⟨RX3, "reasonAgainst", "(I)I"⟩
abbrev cX3_mayBegin : ByteArray := prog_5_method_5_code
def yX3_mayBegin : MethodName := ⟨RX3, "mayBegin", "()Z"⟩
abbrev cX3_take : ByteArray := prog_5_method_6_code
def yX3_take : MethodName := ⟨RX3, "take", "(I)V"⟩
def RX4 : String := "TopicSeams$Gaps"
def TX4 : u_T := fun k => match k with
  | 0 => ("TopicSeams$Gaps", "alike", "[I", true)
  | 1 => ("TopicSeams$Gaps", "depth", "[I", true)
  | _ => ("TopicSeams$Gaps", "deepest", "[I", true)
def tyX4 : Nat → FieldType := fun k => match k with
  | 0 => .array .int
  | 1 => .array .int
  | _ => .array .int
abbrev wsX40 : List Cond := u_ws RX4 TX4 3
theorem nmX4 : ∀ a, a < 3 → ∀ b, b < 3 → a ≠ b → (TX4 a).2.1 ≠ (TX4 b).2.1 := by decide +kernel
theorem tyX4_ok : ∀ k, k < 3 → parseFieldDescriptor (TX4 k).2.2.1 = some (tyX4 k) := by decide +kernel
abbrev cX4_init : ByteArray := prog_6_method_1_code
def yX4_init : MethodName := ⟨RX4, "<init>", "()V"⟩
abbrev cX4_fill : ByteArray := prog_6_method_2_code
def yX4_fill : MethodName := ⟨RX4, "fill", "(LTopicSeams$Reading;I)V"⟩
abbrev cX4_likeness : ByteArray := prog_6_method_3_code
def yX4_likeness : MethodName := ⟨RX4, "likeness", "(LTopicSeams$Reading;II)I"⟩
abbrev cX4_wordsWithin : ByteArray := prog_6_method_4_code
def yX4_wordsWithin : MethodName := ⟨RX4, "wordsWithin", "(LTopicSeams$Reading;III)I"⟩
abbrev cX4_leftHill : ByteArray := prog_6_method_5_code
def yX4_leftHill : MethodName := ⟨RX4, "leftHill", "(I)I"⟩
abbrev cX4_rightHill : ByteArray := prog_6_method_6_code
def yX4_rightHill : MethodName := ⟨RX4, "rightHill", "(II)I"⟩
abbrev cX4_insert : ByteArray := prog_6_method_7_code
def yX4_insert : MethodName := ⟨RX4, "insert", "(I)V"⟩
def RX5 : String := "TopicSeams$Partings"
def TX5 : u_T := fun k => match k with
  | 0 => ("TopicSeams$Partings", "totals", "[[I", true)
  | _ => ("TopicSeams$Partings", "begins", "[[I", true)
def tyX5 : Nat → FieldType := fun k => match k with
  | 0 => .array (.array .int)
  | _ => .array (.array .int)
abbrev wsX50 : List Cond := u_ws RX5 TX5 2
theorem nmX5 : ∀ a, a < 2 → ∀ b, b < 2 → a ≠ b → (TX5 a).2.1 ≠ (TX5 b).2.1 := by decide +kernel
theorem tyX5_ok : ∀ k, k < 2 → parseFieldDescriptor (TX5 k).2.2.1 = some (tyX5 k) := by decide +kernel
abbrev cX5_init : ByteArray := prog_7_method_1_code
def yX5_init : MethodName := ⟨RX5, "<init>", "()V"⟩
abbrev cX5_fill : ByteArray := prog_7_method_2_code
def yX5_fill : MethodName := ⟨RX5, "fill", "([[II)V"⟩
abbrev cX5_chooseLastBlock : ByteArray := prog_7_method_3_code
def yX5_chooseLastBlock : MethodName := ⟨RX5, "chooseLastBlock", "([[III)V"⟩
abbrev cX5_totalOf : ByteArray := prog_7_method_4_code
def yX5_totalOf : MethodName := ⟨RX5, "totalOf", "(II)I"⟩
abbrev cX5_beginOf : ByteArray := prog_7_method_5_code
def yX5_beginOf : MethodName := ⟨RX5, "beginOf", "(III)I"⟩
abbrev cX5_seamBits : ByteArray := prog_7_method_6_code
def yX5_seamBits : MethodName := ⟨RX5, "seamBits", "(II)I"⟩
abbrev cX5_isBent : ByteArray := prog_7_method_7_code
def yX5_isBent : MethodName := ⟨RX5, "isBent", "(II)Z"⟩
def RX6 : String := "TopicSeams$Reading"
def TX6 : u_T := fun k => match k with
  | 0 => ("TopicSeams$Reading", "sentences", "I", false)
  | 1 => ("TopicSeams$Reading", "words", "I", false)
  | 2 => ("TopicSeams$Reading", "stems", "I", false)
  | 3 => ("TopicSeams$Reading", "placeOf", "[I", true)
  | 4 => ("TopicSeams$Reading", "wordsIn", "[I", true)
  | 5 => ("TopicSeams$Reading", "stemAt", "[[I", true)
  | 6 => ("TopicSeams$Reading", "times", "[[I", true)
  | 7 => ("TopicSeams$Reading", "stemLetters", "[I", true)
  | 8 => ("TopicSeams$Reading", "stemWords", "[I", true)
  | 9 => ("TopicSeams$Reading", "firstOf", "[I", true)
  | 10 => ("TopicSeams$Reading", "lastOf", "[I", true)
  | _ => ("TopicSeams$Reading", "codes", "[J", true)
def tyX6 : Nat → FieldType := fun k => match k with
  | 0 => .int
  | 1 => .int
  | 2 => .int
  | 3 => .array .int
  | 4 => .array .int
  | 5 => .array (.array .int)
  | 6 => .array (.array .int)
  | 7 => .array .int
  | 8 => .array .int
  | 9 => .array .int
  | 10 => .array .int
  | _ => .array .long
abbrev wsX60 : List Cond := u_ws RX6 TX6 12
theorem nmX6 : ∀ a, a < 12 → ∀ b, b < 12 → a ≠ b → (TX6 a).2.1 ≠ (TX6 b).2.1 := by decide +kernel
theorem tyX6_ok : ∀ k, k < 12 → parseFieldDescriptor (TX6 k).2.2.1 = some (tyX6 k) := by decide +kernel
abbrev cX6_init : ByteArray := prog_8_method_1_code
def yX6_init : MethodName := ⟨RX6, "<init>", "()V"⟩
abbrev cX6_fill : ByteArray := prog_8_method_2_code
def yX6_fill : MethodName := ⟨RX6, "fill", "(LTopicSeams$Text;Z)V"⟩
abbrev cX6_addWord : ByteArray := prog_8_method_3_code
def yX6_addWord : MethodName := ⟨RX6, "addWord", "(JII)V"⟩
abbrev cX6_endingOf : ByteArray := prog_8_method_4_code
def yX6_endingOf : MethodName := ⟨RX6, "endingOf", "(JI)I"⟩
abbrev cX6_numberOf : ByteArray := prog_8_method_5_code
def yX6_numberOf : MethodName := ⟨RX6, "numberOf", "(JI)I"⟩
abbrev cX6_letterOf : ByteArray := prog_8_method_6_code
def yX6_letterOf : MethodName := ⟨RX6, "letterOf", "(II)I"⟩
abbrev cX6_unlikeIn : ByteArray := prog_8_method_7_code
def yX6_unlikeIn : MethodName := ⟨RX6, "unlikeIn", "(I)I"⟩
abbrev cX6_onceIn : ByteArray := prog_8_method_8_code
def yX6_onceIn : MethodName := ⟨RX6, "onceIn", "(I)I"⟩
def RX7 : String := "TopicSeams$Sheets"
def TX7 : u_T := fun k => match k with
  | 0 => ("TopicSeams$Sheets", "forms", "[I", true)
  | 1 => ("TopicSeams$Sheets", "sizes", "[I", true)
  | _ => ("TopicSeams$Sheets", "items", "[[I", true)
def tyX7 : Nat → FieldType := fun k => match k with
  | 0 => .array .int
  | 1 => .array .int
  | _ => .array (.array .int)
abbrev wsX70 : List Cond := u_ws RX7 TX7 3
theorem nmX7 : ∀ a, a < 3 → ∀ b, b < 3 → a ≠ b → (TX7 a).2.1 ≠ (TX7 b).2.1 := by decide +kernel
theorem tyX7_ok : ∀ k, k < 3 → parseFieldDescriptor (TX7 k).2.2.1 = some (tyX7 k) := by decide +kernel
abbrev cX7_init : ByteArray := prog_9_method_1_code
def yX7_init : MethodName := ⟨RX7, "<init>", "()V"⟩
abbrev cX7_isLost : ByteArray := prog_9_method_2_code
def yX7_isLost : MethodName := ⟨RX7, "isLost", "(I)Z"⟩
abbrev cX7_make : ByteArray := prog_9_method_3_code
def yX7_make : MethodName := ⟨RX7, "make", "(III)V"⟩
abbrev cX7_againstItem : ByteArray := prog_9_method_4_code
def yX7_againstItem : MethodName := ⟨RX7, "againstItem", "(III)I"⟩
abbrev cX7_lacks : ByteArray := prog_9_method_5_code
def yX7_lacks : MethodName := ⟨RX7, "lacks", "(III)Z"⟩
abbrev cX7_item : ByteArray := prog_9_method_6_code
def yX7_item : MethodName := ⟨RX7, "item", "(II)I"⟩
abbrev cX7_keep : ByteArray := prog_9_method_7_code
def yX7_keep : MethodName := ⟨RX7, "keep", "(III)V"⟩
abbrev cX7_move : ByteArray := prog_9_method_8_code
def yX7_move : MethodName := ⟨RX7, "move", "(IIIII)V"⟩
def RX8 : String := "TopicSeams$Text"
def TX8 : u_T := fun k => match k with
  | 0 => ("TopicSeams$Text", "bytes", "[I", true)
  | _ => ("TopicSeams$Text", "size", "I", false)
def tyX8 : Nat → FieldType := fun k => match k with
  | 0 => .array .int
  | _ => .int
abbrev wsX80 : List Cond := u_ws RX8 TX8 2
theorem nmX8 : ∀ a, a < 2 → ∀ b, b < 2 → a ≠ b → (TX8 a).2.1 ≠ (TX8 b).2.1 := by decide +kernel
theorem tyX8_ok : ∀ k, k < 2 → parseFieldDescriptor (TX8 k).2.2.1 = some (tyX8 k) := by decide +kernel
abbrev cX8_init : ByteArray := prog_10_method_1_code
def yX8_init : MethodName := ⟨RX8, "<init>", "()V"⟩
abbrev cX8_add : ByteArray := prog_10_method_2_code
def yX8_add : MethodName := ⟨RX8, "add", "(I)V"⟩
def RX9 : String := "TopicSeams"
def TX9 : u_T := fun k => match k with
  | 0 => ("TopicSeams", "text", "LTopicSeams$Text;", true)
  | 1 => ("TopicSeams", "flaw", "LTopicSeams$Fault;", true)
  | 2 => ("TopicSeams", "reading", "LTopicSeams$Reading;", true)
  | 3 => ("TopicSeams", "links", "LTopicSeams$Chains;", true)
  | 4 => ("TopicSeams", "blocks", "LTopicSeams$Blocks;", true)
  | 5 => ("TopicSeams", "partings", "LTopicSeams$Partings;", true)
  | 6 => ("TopicSeams", "drops", "LTopicSeams$Drops;", true)
  | 7 => ("TopicSeams", "gaps", "LTopicSeams$Gaps;", true)
  | 8 => ("TopicSeams", "sheets", "LTopicSeams$Sheets;", true)
  | 9 => ("TopicSeams", "numbers", "[I", true)
  | 10 => ("TopicSeams", "told", "I", false)
  | 11 => ("TopicSeams", "latest", "I", false)
  | 12 => ("TopicSeams", "textRead", "Z", false)
  | 13 => ("TopicSeams", "chained", "Z", false)
  | 14 => ("TopicSeams", "parted", "Z", false)
  | 15 => ("TopicSeams", "dropped", "Z", false)
  | _ => ("TopicSeams", "gapped", "Z", false)
def tyX9 : Nat → FieldType := fun k => match k with
  | 0 => .object "TopicSeams$Text"
  | 1 => .object "TopicSeams$Fault"
  | 2 => .object "TopicSeams$Reading"
  | 3 => .object "TopicSeams$Chains"
  | 4 => .object "TopicSeams$Blocks"
  | 5 => .object "TopicSeams$Partings"
  | 6 => .object "TopicSeams$Drops"
  | 7 => .object "TopicSeams$Gaps"
  | 8 => .object "TopicSeams$Sheets"
  | 9 => .array .int
  | 10 => .int
  | 11 => .int
  | 12 => .boolean
  | 13 => .boolean
  | 14 => .boolean
  | 15 => .boolean
  | _ => .boolean
abbrev wsX90 : List Cond := u_ws RX9 TX9 17
theorem nmX9 : ∀ a, a < 17 → ∀ b, b < 17 → a ≠ b → (TX9 a).2.1 ≠ (TX9 b).2.1 := by decide +kernel
theorem tyX9_ok : ∀ k, k < 17 → parseFieldDescriptor (TX9 k).2.2.1 = some (tyX9 k) := by decide +kernel
abbrev cX9_init : ByteArray := prog_1_method_1_code
def yX9_init : MethodName := ⟨RX9, "<init>", "()V"⟩
abbrev cX9_type : ByteArray := prog_1_method_2_code
def yX9_type : MethodName := ⟨RX9, "type", "(I)I"⟩
abbrev cX9_wipe : ByteArray := prog_1_method_3_code
def yX9_wipe : MethodName := ⟨RX9, "wipe", "()I"⟩
abbrev cX9_undo : ByteArray := prog_1_method_4_code
def yX9_undo : MethodName := ⟨RX9, "undo", "()I"⟩
abbrev cX9_fault : ByteArray := prog_1_method_5_code
def yX9_fault : MethodName := ⟨RX9, "fault", "(I)I"⟩
abbrev cX9_set : ByteArray := prog_1_method_6_code
def yX9_set : MethodName := ⟨RX9, "set", "(II)I"⟩
abbrev cX9_tell : ByteArray := prog_1_method_7_code
def yX9_tell : MethodName := ⟨RX9, "tell", "(I)I"⟩
abbrev cX9_read : ByteArray := prog_1_method_8_code
def yX9_read : MethodName := ⟨RX9, "read", "(I)I"⟩
abbrev cX9_sentence : ByteArray := prog_1_method_9_code
def yX9_sentence : MethodName := ⟨RX9, "sentence", "(II)I"⟩
abbrev cX9_word : ByteArray := prog_1_method_10_code
def yX9_word : MethodName := ⟨RX9, "word", "(II)I"⟩
abbrev cX9_stem : ByteArray := prog_1_method_11_code
def yX9_stem : MethodName := ⟨RX9, "stem", "(II)I"⟩
abbrev cX9_letter : ByteArray := prog_1_method_12_code
def yX9_letter : MethodName := ⟨RX9, "letter", "(II)I"⟩
abbrev cX9_chains : ByteArray := prog_1_method_13_code
def yX9_chains : MethodName := ⟨RX9, "chains", "()I"⟩
abbrev cX9_chain : ByteArray := prog_1_method_14_code
def yX9_chain : MethodName := ⟨RX9, "chain", "(II)I"⟩
abbrev cX9_over : ByteArray := prog_1_method_15_code
def yX9_over : MethodName := ⟨RX9, "over", "(II)I"⟩
abbrev cX9_cost : ByteArray := prog_1_method_16_code
def yX9_cost : MethodName := ⟨RX9, "cost", "(II)I"⟩
abbrev cX9_best : ByteArray := prog_1_method_17_code
def yX9_best : MethodName := ⟨RX9, "best", "(I)I"⟩
abbrev cX9_seam : ByteArray := prog_1_method_18_code
def yX9_seam : MethodName := ⟨RX9, "seam", "(II)I"⟩
abbrev cX9_bent : ByteArray := prog_1_method_19_code
def yX9_bent : MethodName := ⟨RX9, "bent", "()I"⟩
abbrev cX9_drop : ByteArray := prog_1_method_20_code
def yX9_drop : MethodName := ⟨RX9, "drop", "(II)I"⟩
abbrev cX9_gap : ByteArray := prog_1_method_21_code
def yX9_gap : MethodName := ⟨RX9, "gap", "(II)I"⟩
abbrev cX9_deep : ByteArray := prog_1_method_22_code
def yX9_deep : MethodName := ⟨RX9, "deep", "(I)I"⟩
abbrev cX9_apart : ByteArray := prog_1_method_23_code
def yX9_apart : MethodName := ⟨RX9, "apart", "(II)I"⟩
abbrev cX9_sheet : ByteArray := prog_1_method_24_code
def yX9_sheet : MethodName := ⟨RX9, "sheet", "(III)I"⟩
abbrev cX9_lose : ByteArray := prog_1_method_25_code
def yX9_lose : MethodName := ⟨RX9, "lose", "(I)I"⟩
abbrev cX9_put : ByteArray := prog_1_method_26_code
def yX9_put : MethodName := ⟨RX9, "put", "(IIII)I"⟩
abbrev cX9_get : ByteArray := prog_1_method_27_code
def yX9_get : MethodName := ⟨RX9, "get", "(III)I"⟩
abbrev cX9_copy : ByteArray := prog_1_method_28_code
def yX9_copy : MethodName := ⟨RX9, "copy", "(IIIII)I"⟩
abbrev cX9_write : ByteArray := prog_1_method_29_code
def yX9_write : MethodName := ⟨RX9, "write", "(II)I"⟩
abbrev cX9_count : ByteArray := prog_1_method_30_code
def yX9_count : MethodName := ⟨RX9, "count", "(I)I"⟩
abbrev cX9_digest : ByteArray := prog_1_method_31_code
def yX9_digest : MethodName := ⟨RX9, "digest", "()J"⟩
abbrev cX9_mixSentence : ByteArray := prog_1_method_32_code
def yX9_mixSentence : MethodName := ⟨RX9, "mixSentence", "(JI)J"⟩
abbrev cX9_mixStem : ByteArray := prog_1_method_33_code
def yX9_mixStem : MethodName := ⟨RX9, "mixStem", "(JI)J"⟩
abbrev cX9_mixParting : ByteArray := prog_1_method_34_code
def yX9_mixParting : MethodName := ⟨RX9, "mixParting", "(JI)J"⟩
abbrev cX9_noByte : ByteArray := prog_1_method_35_code
def yX9_noByte : MethodName := ⟨RX9, "noByte", "(I)Z"⟩
abbrev cX9_leadingBytes : ByteArray := prog_1_method_36_code
def yX9_leadingBytes : MethodName := ⟨RX9, "leadingBytes", "(I)I"⟩
abbrev cX9_noParts : ByteArray := prog_1_method_37_code
def yX9_noParts : MethodName := ⟨RX9, "noParts", "(I)Z"⟩
abbrev cX9_noSheet : ByteArray := prog_1_method_38_code
def yX9_noSheet : MethodName := ⟨RX9, "noSheet", "(I)Z"⟩
abbrev cX9_noForm : ByteArray := prog_1_method_39_code
def yX9_noForm : MethodName := ⟨RX9, "noForm", "(I)Z"⟩
abbrev cX9_noSentence : ByteArray := prog_1_method_40_code
def yX9_noSentence : MethodName := ⟨RX9, "noSentence", "(I)Z"⟩
abbrev cX9_noStem : ByteArray := prog_1_method_41_code
def yX9_noStem : MethodName := ⟨RX9, "noStem", "(I)Z"⟩
abbrev cX9_noGap : ByteArray := prog_1_method_42_code
def yX9_noGap : MethodName := ⟨RX9, "noGap", "(I)Z"⟩
abbrev cX9_finding : ByteArray := prog_1_method_43_code
def yX9_finding : MethodName := ⟨RX9, "finding", "(I)I"⟩
abbrev cX9_forgetText : ByteArray := prog_1_method_44_code
def yX9_forgetText : MethodName := ⟨RX9, "forgetText", "()V"⟩
abbrev cX9_readText : ByteArray := prog_1_method_45_code
def yX9_readText : MethodName := ⟨RX9, "readText", "()V"⟩
abbrev cX9_linkChains : ByteArray := prog_1_method_46_code
def yX9_linkChains : MethodName := ⟨RX9, "linkChains", "()V"⟩
abbrev cX9_partText : ByteArray := prog_1_method_47_code
def yX9_partText : MethodName := ⟨RX9, "partText", "()V"⟩
abbrev cX9_dropSentences : ByteArray := prog_1_method_48_code
def yX9_dropSentences : MethodName := ⟨RX9, "dropSentences", "()V"⟩
abbrev cX9_weighGaps : ByteArray := prog_1_method_49_code
def yX9_weighGaps : MethodName := ⟨RX9, "weighGaps", "()V"⟩
abbrev cX9_isLetter : ByteArray := prog_1_method_50_code
def yX9_isLetter : MethodName := ⟨RX9, "isLetter", "(I)Z"⟩
def RX10 : String := "TopicSeamsModel"
def TX10 : u_T := fun k => match k with
  | 0 => ("TopicSeamsModel", "typed", "I", false)
  | 1 => ("TopicSeamsModel", "text", "[I", true)
  | 2 => ("TopicSeamsModel", "settings", "[I", true)
  | 3 => ("TopicSeamsModel", "told", "I", false)
  | 4 => ("TopicSeamsModel", "faultAt", "I", false)
  | 5 => ("TopicSeamsModel", "faultWhy", "I", false)
  | 6 => ("TopicSeamsModel", "faultIn", "I", false)
  | 7 => ("TopicSeamsModel", "sentences", "I", false)
  | 8 => ("TopicSeamsModel", "words", "I", false)
  | 9 => ("TopicSeamsModel", "stems", "I", false)
  | 10 => ("TopicSeamsModel", "wordAt", "[I", true)
  | 11 => ("TopicSeamsModel", "wordLong", "[I", true)
  | 12 => ("TopicSeamsModel", "wordIn", "[I", true)
  | 13 => ("TopicSeamsModel", "wordStem", "[I", true)
  | 14 => ("TopicSeamsModel", "stemAt", "[I", true)
  | 15 => ("TopicSeamsModel", "stemLong", "[I", true)
  | 16 => ("TopicSeamsModel", "firstWord", "[I", true)
  | 17 => ("TopicSeamsModel", "having", "[I", true)
  | 18 => ("TopicSeamsModel", "dropped", "I", false)
  | 19 => ("TopicSeamsModel", "blockWords", "I", false)
  | 20 => ("TopicSeamsModel", "blockUnlike", "I", false)
  | 21 => ("TopicSeamsModel", "blockOnce", "I", false)
  | 22 => ("TopicSeamsModel", "chainMany", "I", false)
  | 23 => ("TopicSeamsModel", "chainStem", "[I", true)
  | 24 => ("TopicSeamsModel", "chainFrom", "[I", true)
  | 25 => ("TopicSeamsModel", "chainTo", "[I", true)
  | 26 => ("TopicSeamsModel", "chainWords", "[I", true)
  | 27 => ("TopicSeamsModel", "costs", "[I", true)
  | 28 => ("TopicSeamsModel", "totals", "[I", true)
  | 29 => ("TopicSeamsModel", "lasts", "[I", true)
  | 30 => ("TopicSeamsModel", "manyNow", "I", false)
  | 31 => ("TopicSeamsModel", "isThere", "[Z", true)
  | 32 => ("TopicSeamsModel", "forms", "[I", true)
  | 33 => ("TopicSeamsModel", "sizes", "[I", true)
  | 34 => ("TopicSeamsModel", "items", "[I", true)
  | 35 => ("TopicSeamsModel", "moved", "[I", true)
  | _ => ("TopicSeamsModel", "finding", "I", false)
def tyX10 : Nat → FieldType := fun k => match k with
  | 0 => .int
  | 1 => .array .int
  | 2 => .array .int
  | 3 => .int
  | 4 => .int
  | 5 => .int
  | 6 => .int
  | 7 => .int
  | 8 => .int
  | 9 => .int
  | 10 => .array .int
  | 11 => .array .int
  | 12 => .array .int
  | 13 => .array .int
  | 14 => .array .int
  | 15 => .array .int
  | 16 => .array .int
  | 17 => .array .int
  | 18 => .int
  | 19 => .int
  | 20 => .int
  | 21 => .int
  | 22 => .int
  | 23 => .array .int
  | 24 => .array .int
  | 25 => .array .int
  | 26 => .array .int
  | 27 => .array .int
  | 28 => .array .int
  | 29 => .array .int
  | 30 => .int
  | 31 => .array .boolean
  | 32 => .array .int
  | 33 => .array .int
  | 34 => .array .int
  | 35 => .array .int
  | _ => .int
abbrev wsX100 : List Cond := u_ws RX10 TX10 37
theorem nmX10 : ∀ a, a < 37 → ∀ b, b < 37 → a ≠ b → (TX10 a).2.1 ≠ (TX10 b).2.1 := by decide +kernel
theorem tyX10_ok : ∀ k, k < 37 → parseFieldDescriptor (TX10 k).2.2.1 = some (tyX10 k) := by decide +kernel
abbrev cX10_init : ByteArray := prog_12_method_1_code
def yX10_init : MethodName := ⟨RX10, "<init>", "()V"⟩
abbrev cX10_in : ByteArray := prog_12_method_3_code
def yX10_in : MethodName := ⟨RX10, "in", "(III)Z"⟩
abbrev cX10_isIn : ByteArray := prog_12_method_4_code
def yX10_isIn : MethodName := ⟨RX10, "isIn", "(II)Z"⟩
abbrev cX10_isTwo : ByteArray := prog_12_method_5_code
def yX10_isTwo : MethodName := ⟨RX10, "isTwo", "(I)Z"⟩
abbrev cX10_type : ByteArray := prog_12_method_6_code
def yX10_type : MethodName := ⟨RX10, "type", "(I)I"⟩
abbrev cX10_wipe : ByteArray := prog_12_method_7_code
def yX10_wipe : MethodName := ⟨RX10, "wipe", "()I"⟩
abbrev cX10_undo : ByteArray := prog_12_method_8_code
def yX10_undo : MethodName := ⟨RX10, "undo", "()I"⟩
abbrev cX10_isSetting : ByteArray := prog_12_method_9_code
def yX10_isSetting : MethodName := ⟨RX10, "isSetting", "(II)Z"⟩
abbrev cX10_set : ByteArray := prog_12_method_10_code
def yX10_set : MethodName := ⟨RX10, "set", "(II)I"⟩
abbrev cX10_tell : ByteArray := prog_12_method_11_code
def yX10_tell : MethodName := ⟨RX10, "tell", "(I)I"⟩
abbrev cX10_read : ByteArray := prog_12_method_12_code
def yX10_read : MethodName := ⟨RX10, "read", "(I)I"⟩
abbrev cX10_fails : ByteArray := prog_12_method_13_code
def yX10_fails : MethodName := ⟨RX10, "fails", "(II)V"⟩
abbrev cX10_whyNot : ByteArray := prog_12_method_14_code
def yX10_whyNot : MethodName := ⟨RX10, "whyNot", "(IIII)I"⟩
abbrev cX10_begins : ByteArray := prog_12_method_15_code
def yX10_begins : MethodName := ⟨RX10, "begins", "(II)V"⟩
abbrev cX10_readsText : ByteArray := prog_12_method_16_code
def yX10_readsText : MethodName := ⟨RX10, "readsText", "()V"⟩
abbrev cX10_endsWith : ByteArray := prog_12_method_17_code
def yX10_endsWith : MethodName := ⟨RX10, "endsWith", "(III)Z"⟩
abbrev cX10_longOf : ByteArray := prog_12_method_18_code
def yX10_longOf : MethodName := ⟨RX10, "longOf", "(I)I"⟩
abbrev cX10_isLike : ByteArray := prog_12_method_19_code
def yX10_isLike : MethodName := ⟨RX10, "isLike", "(III)Z"⟩
abbrev cX10_reads : ByteArray := prog_12_method_20_code
def yX10_reads : MethodName := ⟨RX10, "reads", "()V"⟩
abbrev cX10_faultOf : ByteArray := prog_12_method_21_code
def yX10_faultOf : MethodName := ⟨RX10, "faultOf", "(I)I"⟩
abbrev cX10_fault : ByteArray := prog_12_method_22_code
def yX10_fault : MethodName := ⟨RX10, "fault", "(I)I"⟩
abbrev cX10_isSentence : ByteArray := prog_12_method_23_code
def yX10_isSentence : MethodName := ⟨RX10, "isSentence", "(I)Z"⟩
abbrev cX10_looksOver : ByteArray := prog_12_method_24_code
def yX10_looksOver : MethodName := ⟨RX10, "looksOver", "(II)V"⟩
abbrev cX10_sentenceOf : ByteArray := prog_12_method_25_code
def yX10_sentenceOf : MethodName := ⟨RX10, "sentenceOf", "(II)I"⟩
abbrev cX10_sentence : ByteArray := prog_12_method_26_code
def yX10_sentence : MethodName := ⟨RX10, "sentence", "(II)I"⟩
abbrev cX10_wordOf : ByteArray := prog_12_method_27_code
def yX10_wordOf : MethodName := ⟨RX10, "wordOf", "(II)I"⟩
abbrev cX10_word : ByteArray := prog_12_method_28_code
def yX10_word : MethodName := ⟨RX10, "word", "(II)I"⟩
abbrev cX10_isStem : ByteArray := prog_12_method_29_code
def yX10_isStem : MethodName := ⟨RX10, "isStem", "(I)Z"⟩
abbrev cX10_stemOf : ByteArray := prog_12_method_30_code
def yX10_stemOf : MethodName := ⟨RX10, "stemOf", "(II)I"⟩
abbrev cX10_stem : ByteArray := prog_12_method_31_code
def yX10_stem : MethodName := ⟨RX10, "stem", "(II)I"⟩
abbrev cX10_letterOf : ByteArray := prog_12_method_32_code
def yX10_letterOf : MethodName := ⟨RX10, "letterOf", "(II)I"⟩
abbrev cX10_letter : ByteArray := prog_12_method_33_code
def yX10_letter : MethodName := ⟨RX10, "letter", "(II)I"⟩
abbrev cX10_ends : ByteArray := prog_12_method_34_code
def yX10_ends : MethodName := ⟨RX10, "ends", "(IIII)V"⟩
abbrev cX10_findsChains : ByteArray := prog_12_method_35_code
def yX10_findsChains : MethodName := ⟨RX10, "findsChains", "()V"⟩
abbrev cX10_chainsOf : ByteArray := prog_12_method_36_code
def yX10_chainsOf : MethodName := ⟨RX10, "chainsOf", "()I"⟩
abbrev cX10_chains : ByteArray := prog_12_method_37_code
def yX10_chains : MethodName := ⟨RX10, "chains", "()I"⟩
abbrev cX10_weight : ByteArray := prog_12_method_38_code
def yX10_weight : MethodName := ⟨RX10, "weight", "(I)I"⟩
abbrev cX10_chainOf : ByteArray := prog_12_method_39_code
def yX10_chainOf : MethodName := ⟨RX10, "chainOf", "(II)I"⟩
abbrev cX10_chain : ByteArray := prog_12_method_40_code
def yX10_chain : MethodName := ⟨RX10, "chain", "(II)I"⟩
abbrev cX10_isGap : ByteArray := prog_12_method_41_code
def yX10_isGap : MethodName := ⟨RX10, "isGap", "(I)Z"⟩
abbrev cX10_overOf : ByteArray := prog_12_method_42_code
def yX10_overOf : MethodName := ⟨RX10, "overOf", "(II)I"⟩
abbrev cX10_over : ByteArray := prog_12_method_43_code
def yX10_over : MethodName := ⟨RX10, "over", "(II)I"⟩
abbrev cX10_costNow : ByteArray := prog_12_method_44_code
def yX10_costNow : MethodName := ⟨RX10, "costNow", "(II)I"⟩
abbrev cX10_costOf : ByteArray := prog_12_method_45_code
def yX10_costOf : MethodName := ⟨RX10, "costOf", "(II)I"⟩
abbrev cX10_cost : ByteArray := prog_12_method_46_code
def yX10_cost : MethodName := ⟨RX10, "cost", "(II)I"⟩
abbrev cX10_placeOf : ByteArray := prog_12_method_47_code
def yX10_placeOf : MethodName := ⟨RX10, "placeOf", "(I)I"⟩
abbrev cX10_parts : ByteArray := prog_12_method_48_code
def yX10_parts : MethodName := ⟨RX10, "parts", "()V"⟩
abbrev cX10_totalNow : ByteArray := prog_12_method_49_code
def yX10_totalNow : MethodName := ⟨RX10, "totalNow", "(I)I"⟩
abbrev cX10_partsTold : ByteArray := prog_12_method_50_code
def yX10_partsTold : MethodName := ⟨RX10, "partsTold", "()V"⟩
abbrev cX10_isParts : ByteArray := prog_12_method_51_code
def yX10_isParts : MethodName := ⟨RX10, "isParts", "(I)Z"⟩
abbrev cX10_bestOf : ByteArray := prog_12_method_52_code
def yX10_bestOf : MethodName := ⟨RX10, "bestOf", "(I)I"⟩
abbrev cX10_best : ByteArray := prog_12_method_53_code
def yX10_best : MethodName := ⟨RX10, "best", "(I)I"⟩
abbrev cX10_seamNow : ByteArray := prog_12_method_54_code
def yX10_seamNow : MethodName := ⟨RX10, "seamNow", "(II)I"⟩
abbrev cX10_seamOf : ByteArray := prog_12_method_55_code
def yX10_seamOf : MethodName := ⟨RX10, "seamOf", "(II)I"⟩
abbrev cX10_seam : ByteArray := prog_12_method_56_code
def yX10_seam : MethodName := ⟨RX10, "seam", "(II)I"⟩
abbrev cX10_bentOf : ByteArray := prog_12_method_57_code
def yX10_bentOf : MethodName := ⟨RX10, "bentOf", "()I"⟩
abbrev cX10_bent : ByteArray := prog_12_method_58_code
def yX10_bent : MethodName := ⟨RX10, "bent", "()I"⟩
abbrev cX10_dropOf : ByteArray := prog_12_method_59_code
def yX10_dropOf : MethodName := ⟨RX10, "dropOf", "(II)I"⟩
abbrev cX10_drop : ByteArray := prog_12_method_60_code
def yX10_drop : MethodName := ⟨RX10, "drop", "(II)I"⟩
abbrev cX10_alike : ByteArray := prog_12_method_61_code
def yX10_alike : MethodName := ⟨RX10, "alike", "(I)I"⟩
abbrev cX10_depth : ByteArray := prog_12_method_62_code
def yX10_depth : MethodName := ⟨RX10, "depth", "(I)I"⟩
abbrev cX10_gap : ByteArray := prog_12_method_63_code
def yX10_gap : MethodName := ⟨RX10, "gap", "(II)I"⟩
abbrev cX10_deepOf : ByteArray := prog_12_method_64_code
def yX10_deepOf : MethodName := ⟨RX10, "deepOf", "(I)I"⟩
abbrev cX10_deep : ByteArray := prog_12_method_65_code
def yX10_deep : MethodName := ⟨RX10, "deep", "(I)I"⟩
abbrev cX10_apartOf : ByteArray := prog_12_method_66_code
def yX10_apartOf : MethodName := ⟨RX10, "apartOf", "(II)I"⟩
abbrev cX10_apart : ByteArray := prog_12_method_67_code
def yX10_apart : MethodName := ⟨RX10, "apart", "(II)I"⟩
abbrev cX10_meets : ByteArray := prog_12_method_68_code
def yX10_meets : MethodName := ⟨RX10, "meets", "(I)I"⟩
abbrev cX10_isSheet : ByteArray := prog_12_method_69_code
def yX10_isSheet : MethodName := ⟨RX10, "isSheet", "(I)Z"⟩
abbrev cX10_sheet : ByteArray := prog_12_method_70_code
def yX10_sheet : MethodName := ⟨RX10, "sheet", "(III)I"⟩
abbrev cX10_lose : ByteArray := prog_12_method_71_code
def yX10_lose : MethodName := ⟨RX10, "lose", "(I)I"⟩
abbrev cX10_lacks : ByteArray := prog_12_method_72_code
def yX10_lacks : MethodName := ⟨RX10, "lacks", "(III)I"⟩
abbrev cX10_keep : ByteArray := prog_12_method_73_code
def yX10_keep : MethodName := ⟨RX10, "keep", "(III)V"⟩
abbrev cX10_put : ByteArray := prog_12_method_74_code
def yX10_put : MethodName := ⟨RX10, "put", "(IIII)I"⟩
abbrev cX10_get : ByteArray := prog_12_method_75_code
def yX10_get : MethodName := ⟨RX10, "get", "(III)I"⟩
abbrev cX10_copy : ByteArray := prog_12_method_76_code
def yX10_copy : MethodName := ⟨RX10, "copy", "(IIIII)I"⟩
abbrev cX10_write : ByteArray := prog_12_method_77_code
def yX10_write : MethodName := ⟨RX10, "write", "(II)I"⟩
abbrev cX10_tellOf : ByteArray := prog_12_method_78_code
def yX10_tellOf : MethodName := ⟨RX10, "tellOf", "(I)I"⟩
abbrev cX10_count : ByteArray := prog_12_method_79_code
def yX10_count : MethodName := ⟨RX10, "count", "(I)I"⟩
abbrev cX10_sentenceDigest : ByteArray := prog_12_method_80_code
def yX10_sentenceDigest : MethodName := ⟨RX10, "sentenceDigest", "(JI)J"⟩
abbrev cX10_stemDigest : ByteArray := prog_12_method_81_code
def yX10_stemDigest : MethodName := ⟨RX10, "stemDigest", "(JI)J"⟩
abbrev cX10_partsDigest : ByteArray := prog_12_method_82_code
def yX10_partsDigest : MethodName := ⟨RX10, "partsDigest", "(JI)J"⟩
abbrev cX10_digest : ByteArray := prog_12_method_83_code
def yX10_digest : MethodName := ⟨RX10, "digest", "()J"⟩
def RJ6 : String := "java/lang/Integer"
def TJ6 : u_T := fun k => match k with
  | _ => ("", "", "", false)
def tyJ6 : Nat → FieldType := fun k => match k with
  | _ => .int
abbrev wsJ60 : List Cond := u_ws RJ6 TJ6 0
theorem nmJ6 : ∀ a, a < 0 → ∀ b, b < 0 → a ≠ b → (TJ6 a).2.1 ≠ (TJ6 b).2.1 := by decide +kernel
theorem tyJ6_ok : ∀ k, k < 0 → parseFieldDescriptor (TJ6 k).2.2.1 = some (tyJ6 k) := by decide +kernel
abbrev cJ6_bitCount_0f7a4 : ByteArray := prog_13_method_49_code
def yJ6_bitCount_0f7a4 : MethodName := ⟨RJ6, "bitCount", "(I)I"⟩
def RJ9 : String := "java/lang/Math"
def TJ9 : u_T := fun k => match k with
  | _ => ("", "", "", false)
def tyJ9 : Nat → FieldType := fun k => match k with
  | _ => .int
abbrev wsJ90 : List Cond := u_ws RJ9 TJ9 0
theorem nmJ9 : ∀ a, a < 0 → ∀ b, b < 0 → a ≠ b → (TJ9 a).2.1 ≠ (TJ9 b).2.1 := by decide +kernel
theorem tyJ9_ok : ∀ k, k < 0 → parseFieldDescriptor (TJ9 k).2.2.1 = some (tyJ9 k) := by decide +kernel
abbrev cJ9_max_7cf53 : ByteArray := prog_14_method_65_code
def yJ9_max_7cf53 : MethodName := ⟨RJ9, "max", "(II)I"⟩
abbrev cJ9_min_7cf53 : ByteArray := prog_14_method_69_code
def yJ9_min_7cf53 : MethodName := ⟨RJ9, "min", "(II)I"⟩
def RJ10 : String := "java/lang/System"
def TJ10 : u_T := fun k => match k with
  | _ => ("", "", "", false)
def tyJ10 : Nat → FieldType := fun k => match k with
  | _ => .int
abbrev wsJ100 : List Cond := u_ws RJ10 TJ10 0
theorem nmJ10 : ∀ a, a < 0 → ∀ b, b < 0 → a ≠ b → (TJ10 a).2.1 ≠ (TJ10 b).2.1 := by decide +kernel
theorem tyJ10_ok : ∀ k, k < 0 → parseFieldDescriptor (TJ10 k).2.2.1 = some (tyJ10 k) := by decide +kernel
def RL : String := "TopicSeamsLaw"
abbrev cL_law : ByteArray := code
def yL_law : MethodName := ⟨RL, "law", "([I)Z"⟩
abbrev vwCl : List vw_C := [(RX0, TX0, 5), (RX1, TX1, 5), (RX2, TX2, 4), (RX3, TX3, 7), (RX4, TX4, 3), (RX5, TX5, 2), (RX6, TX6, 12), (RX7, TX7, 3), (RX8, TX8, 2), (RX9, TX9, 17), (RX10, TX10, 37)]
end
section
theorem dX0_init_0 : decode cX0_init 0 = .ok (.aload_n 0, 1) := by decide +kernel
theorem dX0_init_1 : decode cX0_init 1 = .ok (.invokespecial 3, 3) := by decide +kernel
theorem dX0_init_4 : decode cX0_init 4 = .ok (.aload_n 0, 1) := by decide +kernel
theorem dX0_init_5 : decode cX0_init 5 = .ok (.bipush 13, 2) := by decide +kernel
theorem dX0_init_7 : decode cX0_init 7 = .ok (.bipush 13, 2) := by decide +kernel
theorem dX0_init_9 : decode cX0_init 9 = .ok (.multianewarray 9 2, 4) := by decide +kernel
theorem dX0_init_13 : decode cX0_init 13 = .ok (.putfield 11, 3) := by decide +kernel
theorem dX0_init_16 : decode cX0_init 16 = .ok (.aload_n 0, 1) := by decide +kernel
theorem dX0_init_17 : decode cX0_init 17 = .ok (.bipush 108, 2) := by decide +kernel
theorem dX0_init_19 : decode cX0_init 19 = .ok (.newarray .int, 2) := by decide +kernel
theorem dX0_init_21 : decode cX0_init 21 = .ok (.putfield 16, 3) := by decide +kernel
theorem dX0_init_24 : decode cX0_init 24 = .ok (.return_, 1) := by decide +kernel
theorem dX0_fill_0 : decode cX0_fill 0 = .ok (.iload_n 2, 1) := by decide +kernel
theorem dX0_fill_1 : decode cX0_fill 1 = .ok (.iconst (-1), 1) := by decide +kernel
theorem dX0_fill_2 : decode cX0_fill 2 = .ok (.if_icmp .ne 10, 3) := by decide +kernel
theorem dX0_fill_5 : decode cX0_fill 5 = .ok (.aload_n 1, 1) := by decide +kernel
theorem dX0_fill_6 : decode cX0_fill 6 = .ok (.getfield 20, 3) := by decide +kernel
theorem dX0_fill_9 : decode cX0_fill 9 = .ok (.goto 9, 3) := by decide +kernel
theorem dX0_fill_12 : decode cX0_fill 12 = .ok (.aload_n 1, 1) := by decide +kernel
theorem dX0_fill_13 : decode cX0_fill 13 = .ok (.getfield 20, 3) := by decide +kernel
theorem dX0_fill_16 : decode cX0_fill 16 = .ok (.iconst 1, 1) := by decide +kernel
theorem dX0_fill_17 : decode cX0_fill 17 = .ok (.isub, 1) := by decide +kernel
theorem dX0_fill_18 : decode cX0_fill 18 = .ok (.istore 5, 2) := by decide +kernel
theorem dX0_fill_20 : decode cX0_fill 20 = .ok (.iconst 0, 1) := by decide +kernel
theorem dX0_fill_21 : decode cX0_fill 21 = .ok (.istore 6, 2) := by decide +kernel
theorem dX0_fill_23 : decode cX0_fill 23 = .ok (.iload 6, 2) := by decide +kernel
theorem dX0_fill_25 : decode cX0_fill 25 = .ok (.iload 5, 2) := by decide +kernel
theorem dX0_fill_27 : decode cX0_fill 27 = .ok (.if_icmp .ge 79, 3) := by decide +kernel
theorem dX0_fill_30 : decode cX0_fill 30 = .ok (.aload_n 0, 1) := by decide +kernel
theorem dX0_fill_31 : decode cX0_fill 31 = .ok (.aload_n 1, 1) := by decide +kernel
theorem dX0_fill_32 : decode cX0_fill 32 = .ok (.getfield 26, 3) := by decide +kernel
theorem dX0_fill_35 : decode cX0_fill 35 = .ok (.invokevirtual 29, 3) := by decide +kernel
theorem dX0_fill_38 : decode cX0_fill 38 = .ok (.iload 6, 2) := by decide +kernel
theorem dX0_fill_40 : decode cX0_fill 40 = .ok (.istore 7, 2) := by decide +kernel
theorem dX0_fill_42 : decode cX0_fill 42 = .ok (.iload 7, 2) := by decide +kernel
theorem dX0_fill_44 : decode cX0_fill 44 = .ok (.iload 5, 2) := by decide +kernel
theorem dX0_fill_46 : decode cX0_fill 46 = .ok (.if_icmp .ge 54, 3) := by decide +kernel
theorem dX0_fill_49 : decode cX0_fill 49 = .ok (.aload_n 0, 1) := by decide +kernel
theorem dX0_fill_50 : decode cX0_fill 50 = .ok (.aload_n 1, 1) := by decide +kernel
theorem dX0_fill_51 : decode cX0_fill 51 = .ok (.iload_n 2, 1) := by decide +kernel
theorem dX0_fill_52 : decode cX0_fill 52 = .ok (.iconst (-1), 1) := by decide +kernel
theorem dX0_fill_53 : decode cX0_fill 53 = .ok (.if_icmp .eq 9, 3) := by decide +kernel
theorem dX0_fill_56 : decode cX0_fill 56 = .ok (.iload 7, 2) := by decide +kernel
theorem dX0_fill_58 : decode cX0_fill 58 = .ok (.iload_n 2, 1) := by decide +kernel
theorem dX0_fill_59 : decode cX0_fill 59 = .ok (.if_icmp .ge 8, 3) := by decide +kernel
theorem dX0_fill_62 : decode cX0_fill 62 = .ok (.iload 7, 2) := by decide +kernel
theorem dX0_fill_64 : decode cX0_fill 64 = .ok (.goto 7, 3) := by decide +kernel
theorem dX0_fill_67 : decode cX0_fill 67 = .ok (.iload 7, 2) := by decide +kernel
theorem dX0_fill_69 : decode cX0_fill 69 = .ok (.iconst 1, 1) := by decide +kernel
theorem dX0_fill_70 : decode cX0_fill 70 = .ok (.iadd, 1) := by decide +kernel
theorem dX0_fill_71 : decode cX0_fill 71 = .ok (.invokevirtual 33, 3) := by decide +kernel
theorem dX0_fill_74 : decode cX0_fill 74 = .ok (.aload_n 0, 1) := by decide +kernel
theorem dX0_fill_75 : decode cX0_fill 75 = .ok (.getfield 11, 3) := by decide +kernel
theorem dX0_fill_78 : decode cX0_fill 78 = .ok (.iload 6, 2) := by decide +kernel
theorem dX0_fill_80 : decode cX0_fill 80 = .ok (.aaload, 1) := by decide +kernel
theorem dX0_fill_81 : decode cX0_fill 81 = .ok (.iload 7, 2) := by decide +kernel
theorem dX0_fill_83 : decode cX0_fill 83 = .ok (.iconst 1, 1) := by decide +kernel
theorem dX0_fill_84 : decode cX0_fill 84 = .ok (.iadd, 1) := by decide +kernel
theorem dX0_fill_85 : decode cX0_fill 85 = .ok (.aload_n 0, 1) := by decide +kernel
theorem dX0_fill_86 : decode cX0_fill 86 = .ok (.iload_n 3, 1) := by decide +kernel
theorem dX0_fill_87 : decode cX0_fill 87 = .ok (.invokevirtual 37, 3) := by decide +kernel
theorem dX0_fill_90 : decode cX0_fill 90 = .ok (.iload 4, 2) := by decide +kernel
theorem dX0_fill_92 : decode cX0_fill 92 = .ok (.iadd, 1) := by decide +kernel
theorem dX0_fill_93 : decode cX0_fill 93 = .ok (.iastore, 1) := by decide +kernel
theorem dX0_fill_94 : decode cX0_fill 94 = .ok (.iinc 7 1, 3) := by decide +kernel
theorem dX0_fill_97 : decode cX0_fill 97 = .ok (.goto (-55), 3) := by decide +kernel
theorem dX0_fill_100 : decode cX0_fill 100 = .ok (.iinc 6 1, 3) := by decide +kernel
theorem dX0_fill_103 : decode cX0_fill 103 = .ok (.goto (-80), 3) := by decide +kernel
theorem dX0_fill_106 : decode cX0_fill 106 = .ok (.return_, 1) := by decide +kernel
theorem dX0_startBlock_0 : decode cX0_startBlock 0 = .ok (.aload_n 0, 1) := by decide +kernel
theorem dX0_startBlock_1 : decode cX0_startBlock 1 = .ok (.iconst 0, 1) := by decide +kernel
theorem dX0_startBlock_2 : decode cX0_startBlock 2 = .ok (.putfield 41, 3) := by decide +kernel
theorem dX0_startBlock_5 : decode cX0_startBlock 5 = .ok (.aload_n 0, 1) := by decide +kernel
theorem dX0_startBlock_6 : decode cX0_startBlock 6 = .ok (.iconst 0, 1) := by decide +kernel
theorem dX0_startBlock_7 : decode cX0_startBlock 7 = .ok (.putfield 44, 3) := by decide +kernel
theorem dX0_startBlock_10 : decode cX0_startBlock 10 = .ok (.aload_n 0, 1) := by decide +kernel
theorem dX0_startBlock_11 : decode cX0_startBlock 11 = .ok (.iconst 0, 1) := by decide +kernel
theorem dX0_startBlock_12 : decode cX0_startBlock 12 = .ok (.putfield 47, 3) := by decide +kernel
theorem dX0_startBlock_15 : decode cX0_startBlock 15 = .ok (.iconst 0, 1) := by decide +kernel
theorem dX0_startBlock_16 : decode cX0_startBlock 16 = .ok (.istore_n 2, 1) := by decide +kernel
theorem dX0_startBlock_17 : decode cX0_startBlock 17 = .ok (.iload_n 2, 1) := by decide +kernel
theorem dX0_startBlock_18 : decode cX0_startBlock 18 = .ok (.iload_n 1, 1) := by decide +kernel
theorem dX0_startBlock_19 : decode cX0_startBlock 19 = .ok (.if_icmp .ge 16, 3) := by decide +kernel
theorem dX0_startBlock_22 : decode cX0_startBlock 22 = .ok (.aload_n 0, 1) := by decide +kernel
theorem dX0_startBlock_23 : decode cX0_startBlock 23 = .ok (.getfield 16, 3) := by decide +kernel
theorem dX0_startBlock_26 : decode cX0_startBlock 26 = .ok (.iload_n 2, 1) := by decide +kernel
theorem dX0_startBlock_27 : decode cX0_startBlock 27 = .ok (.iconst 0, 1) := by decide +kernel
theorem dX0_startBlock_28 : decode cX0_startBlock 28 = .ok (.iastore, 1) := by decide +kernel
theorem dX0_startBlock_29 : decode cX0_startBlock 29 = .ok (.iinc 2 1, 3) := by decide +kernel
theorem dX0_startBlock_32 : decode cX0_startBlock 32 = .ok (.goto (-15), 3) := by decide +kernel
theorem dX0_startBlock_35 : decode cX0_startBlock 35 = .ok (.return_, 1) := by decide +kernel
theorem dX0_addSentence_0 : decode cX0_addSentence 0 = .ok (.iconst 0, 1) := by decide +kernel
theorem dX0_addSentence_1 : decode cX0_addSentence 1 = .ok (.istore_n 3, 1) := by decide +kernel
theorem dX0_addSentence_2 : decode cX0_addSentence 2 = .ok (.iload_n 3, 1) := by decide +kernel
theorem dX0_addSentence_3 : decode cX0_addSentence 3 = .ok (.aload_n 1, 1) := by decide +kernel
theorem dX0_addSentence_4 : decode cX0_addSentence 4 = .ok (.getfield 50, 3) := by decide +kernel
theorem dX0_addSentence_7 : decode cX0_addSentence 7 = .ok (.iload_n 2, 1) := by decide +kernel
theorem dX0_addSentence_8 : decode cX0_addSentence 8 = .ok (.iaload, 1) := by decide +kernel
theorem dX0_addSentence_9 : decode cX0_addSentence 9 = .ok (.if_icmp .ge 95, 3) := by decide +kernel
theorem dX0_addSentence_12 : decode cX0_addSentence 12 = .ok (.aload_n 1, 1) := by decide +kernel
theorem dX0_addSentence_13 : decode cX0_addSentence 13 = .ok (.getfield 53, 3) := by decide +kernel
theorem dX0_addSentence_16 : decode cX0_addSentence 16 = .ok (.iload_n 2, 1) := by decide +kernel
theorem dX0_addSentence_17 : decode cX0_addSentence 17 = .ok (.aaload, 1) := by decide +kernel
theorem dX0_addSentence_18 : decode cX0_addSentence 18 = .ok (.iload_n 3, 1) := by decide +kernel
theorem dX0_addSentence_19 : decode cX0_addSentence 19 = .ok (.iaload, 1) := by decide +kernel
theorem dX0_addSentence_20 : decode cX0_addSentence 20 = .ok (.istore 4, 2) := by decide +kernel
theorem dX0_addSentence_22 : decode cX0_addSentence 22 = .ok (.aload_n 0, 1) := by decide +kernel
theorem dX0_addSentence_23 : decode cX0_addSentence 23 = .ok (.dup, 1) := by decide +kernel
theorem dX0_addSentence_24 : decode cX0_addSentence 24 = .ok (.getfield 41, 3) := by decide +kernel
theorem dX0_addSentence_27 : decode cX0_addSentence 27 = .ok (.iconst 1, 1) := by decide +kernel
theorem dX0_addSentence_28 : decode cX0_addSentence 28 = .ok (.iadd, 1) := by decide +kernel
theorem dX0_addSentence_29 : decode cX0_addSentence 29 = .ok (.putfield 41, 3) := by decide +kernel
theorem dX0_addSentence_32 : decode cX0_addSentence 32 = .ok (.aload_n 0, 1) := by decide +kernel
theorem dX0_addSentence_33 : decode cX0_addSentence 33 = .ok (.getfield 16, 3) := by decide +kernel
theorem dX0_addSentence_36 : decode cX0_addSentence 36 = .ok (.iload 4, 2) := by decide +kernel
theorem dX0_addSentence_38 : decode cX0_addSentence 38 = .ok (.dup2, 1) := by decide +kernel
theorem dX0_addSentence_39 : decode cX0_addSentence 39 = .ok (.iaload, 1) := by decide +kernel
theorem dX0_addSentence_40 : decode cX0_addSentence 40 = .ok (.iconst 1, 1) := by decide +kernel
theorem dX0_addSentence_41 : decode cX0_addSentence 41 = .ok (.iadd, 1) := by decide +kernel
theorem dX0_addSentence_42 : decode cX0_addSentence 42 = .ok (.iastore, 1) := by decide +kernel
theorem dX0_addSentence_43 : decode cX0_addSentence 43 = .ok (.aload_n 0, 1) := by decide +kernel
theorem dX0_addSentence_44 : decode cX0_addSentence 44 = .ok (.getfield 16, 3) := by decide +kernel
theorem dX0_addSentence_47 : decode cX0_addSentence 47 = .ok (.iload 4, 2) := by decide +kernel
theorem dX0_addSentence_49 : decode cX0_addSentence 49 = .ok (.iaload, 1) := by decide +kernel
theorem dX0_addSentence_50 : decode cX0_addSentence 50 = .ok (.iconst 1, 1) := by decide +kernel
theorem dX0_addSentence_51 : decode cX0_addSentence 51 = .ok (.if_icmp .ne 26, 3) := by decide +kernel
theorem dX0_addSentence_54 : decode cX0_addSentence 54 = .ok (.aload_n 0, 1) := by decide +kernel
theorem dX0_addSentence_55 : decode cX0_addSentence 55 = .ok (.dup, 1) := by decide +kernel
theorem dX0_addSentence_56 : decode cX0_addSentence 56 = .ok (.getfield 44, 3) := by decide +kernel
theorem dX0_addSentence_59 : decode cX0_addSentence 59 = .ok (.iconst 1, 1) := by decide +kernel
theorem dX0_addSentence_60 : decode cX0_addSentence 60 = .ok (.iadd, 1) := by decide +kernel
theorem dX0_addSentence_61 : decode cX0_addSentence 61 = .ok (.putfield 44, 3) := by decide +kernel
theorem dX0_addSentence_64 : decode cX0_addSentence 64 = .ok (.aload_n 0, 1) := by decide +kernel
theorem dX0_addSentence_65 : decode cX0_addSentence 65 = .ok (.dup, 1) := by decide +kernel
theorem dX0_addSentence_66 : decode cX0_addSentence 66 = .ok (.getfield 47, 3) := by decide +kernel
theorem dX0_addSentence_69 : decode cX0_addSentence 69 = .ok (.iconst 1, 1) := by decide +kernel
theorem dX0_addSentence_70 : decode cX0_addSentence 70 = .ok (.iadd, 1) := by decide +kernel
theorem dX0_addSentence_71 : decode cX0_addSentence 71 = .ok (.putfield 47, 3) := by decide +kernel
theorem dX0_addSentence_74 : decode cX0_addSentence 74 = .ok (.goto 24, 3) := by decide +kernel
theorem dX0_addSentence_77 : decode cX0_addSentence 77 = .ok (.aload_n 0, 1) := by decide +kernel
theorem dX0_addSentence_78 : decode cX0_addSentence 78 = .ok (.getfield 16, 3) := by decide +kernel
theorem dX0_addSentence_81 : decode cX0_addSentence 81 = .ok (.iload 4, 2) := by decide +kernel
theorem dX0_addSentence_83 : decode cX0_addSentence 83 = .ok (.iaload, 1) := by decide +kernel
theorem dX0_addSentence_84 : decode cX0_addSentence 84 = .ok (.iconst 2, 1) := by decide +kernel
theorem dX0_addSentence_85 : decode cX0_addSentence 85 = .ok (.if_icmp .ne 13, 3) := by decide +kernel
theorem dX0_addSentence_88 : decode cX0_addSentence 88 = .ok (.aload_n 0, 1) := by decide +kernel
theorem dX0_addSentence_89 : decode cX0_addSentence 89 = .ok (.dup, 1) := by decide +kernel
theorem dX0_addSentence_90 : decode cX0_addSentence 90 = .ok (.getfield 47, 3) := by decide +kernel
theorem dX0_addSentence_93 : decode cX0_addSentence 93 = .ok (.iconst 1, 1) := by decide +kernel
theorem dX0_addSentence_94 : decode cX0_addSentence 94 = .ok (.isub, 1) := by decide +kernel
theorem dX0_addSentence_95 : decode cX0_addSentence 95 = .ok (.putfield 47, 3) := by decide +kernel
theorem dX0_addSentence_98 : decode cX0_addSentence 98 = .ok (.iinc 3 1, 3) := by decide +kernel
theorem dX0_addSentence_101 : decode cX0_addSentence 101 = .ok (.goto (-99), 3) := by decide +kernel
theorem dX0_addSentence_104 : decode cX0_addSentence 104 = .ok (.return_, 1) := by decide +kernel
theorem dX0_price_0 : decode cX0_price 0 = .ok (.iload_n 1, 1) := by decide +kernel
theorem dX0_price_1 : decode cX0_price 1 = .ok (.ifCond .ne 10, 3) := by decide +kernel
theorem dX0_price_4 : decode cX0_price 4 = .ok (.iconst 2, 1) := by decide +kernel
theorem dX0_price_5 : decode cX0_price 5 = .ok (.aload_n 0, 1) := by decide +kernel
theorem dX0_price_6 : decode cX0_price 6 = .ok (.getfield 44, 3) := by decide +kernel
theorem dX0_price_9 : decode cX0_price 9 = .ok (.imul, 1) := by decide +kernel
theorem dX0_price_10 : decode cX0_price 10 = .ok (.ireturn, 1) := by decide +kernel
theorem dX0_price_11 : decode cX0_price 11 = .ok (.iload_n 1, 1) := by decide +kernel
theorem dX0_price_12 : decode cX0_price 12 = .ok (.iconst 1, 1) := by decide +kernel
theorem dX0_price_13 : decode cX0_price 13 = .ok (.if_icmp .ne 13, 3) := by decide +kernel
theorem dX0_price_16 : decode cX0_price 16 = .ok (.aload_n 0, 1) := by decide +kernel
theorem dX0_price_17 : decode cX0_price 17 = .ok (.getfield 44, 3) := by decide +kernel
theorem dX0_price_20 : decode cX0_price 20 = .ok (.aload_n 0, 1) := by decide +kernel
theorem dX0_price_21 : decode cX0_price 21 = .ok (.getfield 44, 3) := by decide +kernel
theorem dX0_price_24 : decode cX0_price 24 = .ok (.imul, 1) := by decide +kernel
theorem dX0_price_25 : decode cX0_price 25 = .ok (.ireturn, 1) := by decide +kernel
theorem dX0_price_26 : decode cX0_price 26 = .ok (.iload_n 1, 1) := by decide +kernel
theorem dX0_price_27 : decode cX0_price 27 = .ok (.iconst 2, 1) := by decide +kernel
theorem dX0_price_28 : decode cX0_price 28 = .ok (.if_icmp .ne 15, 3) := by decide +kernel
theorem dX0_price_31 : decode cX0_price 31 = .ok (.aload_n 0, 1) := by decide +kernel
theorem dX0_price_32 : decode cX0_price 32 = .ok (.getfield 41, 3) := by decide +kernel
theorem dX0_price_35 : decode cX0_price 35 = .ok (.iconst 3, 1) := by decide +kernel
theorem dX0_price_36 : decode cX0_price 36 = .ok (.aload_n 0, 1) := by decide +kernel
theorem dX0_price_37 : decode cX0_price 37 = .ok (.getfield 47, 3) := by decide +kernel
theorem dX0_price_40 : decode cX0_price 40 = .ok (.imul, 1) := by decide +kernel
theorem dX0_price_41 : decode cX0_price 41 = .ok (.iadd, 1) := by decide +kernel
theorem dX0_price_42 : decode cX0_price 42 = .ok (.ireturn, 1) := by decide +kernel
theorem dX0_price_43 : decode cX0_price 43 = .ok (.aload_n 0, 1) := by decide +kernel
theorem dX0_price_44 : decode cX0_price 44 = .ok (.getfield 41, 3) := by decide +kernel
theorem dX0_price_47 : decode cX0_price 47 = .ok (.aload_n 0, 1) := by decide +kernel
theorem dX0_price_48 : decode cX0_price 48 = .ok (.getfield 44, 3) := by decide +kernel
theorem dX0_price_51 : decode cX0_price 51 = .ok (.isub, 1) := by decide +kernel
theorem dX0_price_52 : decode cX0_price 52 = .ok (.istore_n 2, 1) := by decide +kernel
theorem dX0_price_53 : decode cX0_price 53 = .ok (.iload_n 2, 1) := by decide +kernel
theorem dX0_price_54 : decode cX0_price 54 = .ok (.iconst 4, 1) := by decide +kernel
theorem dX0_price_55 : decode cX0_price 55 = .ok (.aload_n 0, 1) := by decide +kernel
theorem dX0_price_56 : decode cX0_price 56 = .ok (.getfield 44, 3) := by decide +kernel
theorem dX0_price_59 : decode cX0_price 59 = .ok (.imul, 1) := by decide +kernel
theorem dX0_price_60 : decode cX0_price 60 = .ok (.if_icmp .ge 14, 3) := by decide +kernel
theorem dX0_price_63 : decode cX0_price 63 = .ok (.iconst 4, 1) := by decide +kernel
theorem dX0_price_64 : decode cX0_price 64 = .ok (.aload_n 0, 1) := by decide +kernel
theorem dX0_price_65 : decode cX0_price 65 = .ok (.getfield 44, 3) := by decide +kernel
theorem dX0_price_68 : decode cX0_price 68 = .ok (.imul, 1) := by decide +kernel
theorem dX0_price_69 : decode cX0_price 69 = .ok (.iload_n 2, 1) := by decide +kernel
theorem dX0_price_70 : decode cX0_price 70 = .ok (.isub, 1) := by decide +kernel
theorem dX0_price_71 : decode cX0_price 71 = .ok (.goto 4, 3) := by decide +kernel
theorem dX0_price_74 : decode cX0_price 74 = .ok (.iconst 0, 1) := by decide +kernel
theorem dX0_price_75 : decode cX0_price 75 = .ok (.ireturn, 1) := by decide +kernel
theorem dX1_init_0 : decode cX1_init 0 = .ok (.aload_n 0, 1) := by decide +kernel
theorem dX1_init_1 : decode cX1_init 1 = .ok (.invokespecial 3, 3) := by decide +kernel
theorem dX1_init_4 : decode cX1_init 4 = .ok (.aload_n 0, 1) := by decide +kernel
theorem dX1_init_5 : decode cX1_init 5 = .ok (.iconst 0, 1) := by decide +kernel
theorem dX1_init_6 : decode cX1_init 6 = .ok (.putfield 9, 3) := by decide +kernel
theorem dX1_init_9 : decode cX1_init 9 = .ok (.aload_n 0, 1) := by decide +kernel
theorem dX1_init_10 : decode cX1_init 10 = .ok (.bipush 100, 2) := by decide +kernel
theorem dX1_init_12 : decode cX1_init 12 = .ok (.newarray .int, 2) := by decide +kernel
theorem dX1_init_14 : decode cX1_init 14 = .ok (.putfield 15, 3) := by decide +kernel
theorem dX1_init_17 : decode cX1_init 17 = .ok (.aload_n 0, 1) := by decide +kernel
theorem dX1_init_18 : decode cX1_init 18 = .ok (.bipush 100, 2) := by decide +kernel
theorem dX1_init_20 : decode cX1_init 20 = .ok (.newarray .int, 2) := by decide +kernel
theorem dX1_init_22 : decode cX1_init 22 = .ok (.putfield 19, 3) := by decide +kernel
theorem dX1_init_25 : decode cX1_init 25 = .ok (.aload_n 0, 1) := by decide +kernel
theorem dX1_init_26 : decode cX1_init 26 = .ok (.bipush 100, 2) := by decide +kernel
theorem dX1_init_28 : decode cX1_init 28 = .ok (.newarray .int, 2) := by decide +kernel
theorem dX1_init_30 : decode cX1_init 30 = .ok (.putfield 22, 3) := by decide +kernel
theorem dX1_init_33 : decode cX1_init 33 = .ok (.aload_n 0, 1) := by decide +kernel
theorem dX1_init_34 : decode cX1_init 34 = .ok (.bipush 100, 2) := by decide +kernel
theorem dX1_init_36 : decode cX1_init 36 = .ok (.newarray .int, 2) := by decide +kernel
theorem dX1_init_38 : decode cX1_init 38 = .ok (.putfield 25, 3) := by decide +kernel
theorem dX1_init_41 : decode cX1_init 41 = .ok (.return_, 1) := by decide +kernel
theorem dX1_fill_0 : decode cX1_fill 0 = .ok (.aload_n 0, 1) := by decide +kernel
theorem dX1_fill_1 : decode cX1_fill 1 = .ok (.iconst 0, 1) := by decide +kernel
theorem dX1_fill_2 : decode cX1_fill 2 = .ok (.putfield 9, 3) := by decide +kernel
theorem dX1_fill_5 : decode cX1_fill 5 = .ok (.iconst 0, 1) := by decide +kernel
theorem dX1_fill_6 : decode cX1_fill 6 = .ok (.istore_n 3, 1) := by decide +kernel
theorem dX1_fill_7 : decode cX1_fill 7 = .ok (.iload_n 3, 1) := by decide +kernel
theorem dX1_fill_8 : decode cX1_fill 8 = .ok (.aload_n 1, 1) := by decide +kernel
theorem dX1_fill_9 : decode cX1_fill 9 = .ok (.getfield 28, 3) := by decide +kernel
theorem dX1_fill_12 : decode cX1_fill 12 = .ok (.if_icmp .ge 16, 3) := by decide +kernel
theorem dX1_fill_15 : decode cX1_fill 15 = .ok (.aload_n 0, 1) := by decide +kernel
theorem dX1_fill_16 : decode cX1_fill 16 = .ok (.aload_n 1, 1) := by decide +kernel
theorem dX1_fill_17 : decode cX1_fill 17 = .ok (.iload_n 3, 1) := by decide +kernel
theorem dX1_fill_18 : decode cX1_fill 18 = .ok (.iload_n 2, 1) := by decide +kernel
theorem dX1_fill_19 : decode cX1_fill 19 = .ok (.invokevirtual 33, 3) := by decide +kernel
theorem dX1_fill_22 : decode cX1_fill 22 = .ok (.iinc 3 1, 3) := by decide +kernel
theorem dX1_fill_25 : decode cX1_fill 25 = .ok (.goto (-18), 3) := by decide +kernel
theorem dX1_fill_28 : decode cX1_fill 28 = .ok (.return_, 1) := by decide +kernel
theorem dX1_linkStem_0 : decode cX1_linkStem 0 = .ok (.aload_n 1, 1) := by decide +kernel
theorem dX1_linkStem_1 : decode cX1_linkStem 1 = .ok (.getfield 37, 3) := by decide +kernel
theorem dX1_linkStem_4 : decode cX1_linkStem 4 = .ok (.iload_n 2, 1) := by decide +kernel
theorem dX1_linkStem_5 : decode cX1_linkStem 5 = .ok (.iaload, 1) := by decide +kernel
theorem dX1_linkStem_6 : decode cX1_linkStem 6 = .ok (.istore 4, 2) := by decide +kernel
theorem dX1_linkStem_8 : decode cX1_linkStem 8 = .ok (.iload 4, 2) := by decide +kernel
theorem dX1_linkStem_10 : decode cX1_linkStem 10 = .ok (.istore 5, 2) := by decide +kernel
theorem dX1_linkStem_12 : decode cX1_linkStem 12 = .ok (.iconst 0, 1) := by decide +kernel
theorem dX1_linkStem_13 : decode cX1_linkStem 13 = .ok (.istore 6, 2) := by decide +kernel
theorem dX1_linkStem_15 : decode cX1_linkStem 15 = .ok (.iload 4, 2) := by decide +kernel
theorem dX1_linkStem_17 : decode cX1_linkStem 17 = .ok (.istore 7, 2) := by decide +kernel
theorem dX1_linkStem_19 : decode cX1_linkStem 19 = .ok (.iload 7, 2) := by decide +kernel
theorem dX1_linkStem_21 : decode cX1_linkStem 21 = .ok (.aload_n 1, 1) := by decide +kernel
theorem dX1_linkStem_22 : decode cX1_linkStem 22 = .ok (.getfield 38, 3) := by decide +kernel
theorem dX1_linkStem_25 : decode cX1_linkStem 25 = .ok (.iload_n 2, 1) := by decide +kernel
theorem dX1_linkStem_26 : decode cX1_linkStem 26 = .ok (.iaload, 1) := by decide +kernel
theorem dX1_linkStem_27 : decode cX1_linkStem 27 = .ok (.if_icmp .gt 66, 3) := by decide +kernel
theorem dX1_linkStem_30 : decode cX1_linkStem 30 = .ok (.aload_n 1, 1) := by decide +kernel
theorem dX1_linkStem_31 : decode cX1_linkStem 31 = .ok (.getfield 39, 3) := by decide +kernel
theorem dX1_linkStem_34 : decode cX1_linkStem 34 = .ok (.iload 7, 2) := by decide +kernel
theorem dX1_linkStem_36 : decode cX1_linkStem 36 = .ok (.aaload, 1) := by decide +kernel
theorem dX1_linkStem_37 : decode cX1_linkStem 37 = .ok (.iload_n 2, 1) := by decide +kernel
theorem dX1_linkStem_38 : decode cX1_linkStem 38 = .ok (.iaload, 1) := by decide +kernel
theorem dX1_linkStem_39 : decode cX1_linkStem 39 = .ok (.istore 8, 2) := by decide +kernel
theorem dX1_linkStem_41 : decode cX1_linkStem 41 = .ok (.iload 8, 2) := by decide +kernel
theorem dX1_linkStem_43 : decode cX1_linkStem 43 = .ok (.ifCond .ne 6, 3) := by decide +kernel
theorem dX1_linkStem_46 : decode cX1_linkStem 46 = .ok (.goto 41, 3) := by decide +kernel
theorem dX1_linkStem_49 : decode cX1_linkStem 49 = .ok (.iload 7, 2) := by decide +kernel
theorem dX1_linkStem_51 : decode cX1_linkStem 51 = .ok (.iload 5, 2) := by decide +kernel
theorem dX1_linkStem_53 : decode cX1_linkStem 53 = .ok (.isub, 1) := by decide +kernel
theorem dX1_linkStem_54 : decode cX1_linkStem 54 = .ok (.iload_n 3, 1) := by decide +kernel
theorem dX1_linkStem_55 : decode cX1_linkStem 55 = .ok (.if_icmp .le 21, 3) := by decide +kernel
theorem dX1_linkStem_58 : decode cX1_linkStem 58 = .ok (.aload_n 0, 1) := by decide +kernel
theorem dX1_linkStem_59 : decode cX1_linkStem 59 = .ok (.iload_n 2, 1) := by decide +kernel
theorem dX1_linkStem_60 : decode cX1_linkStem 60 = .ok (.iload 4, 2) := by decide +kernel
theorem dX1_linkStem_62 : decode cX1_linkStem 62 = .ok (.iload 5, 2) := by decide +kernel
theorem dX1_linkStem_64 : decode cX1_linkStem 64 = .ok (.iload 6, 2) := by decide +kernel
theorem dX1_linkStem_66 : decode cX1_linkStem 66 = .ok (.invokevirtual 43, 3) := by decide +kernel
theorem dX1_linkStem_69 : decode cX1_linkStem 69 = .ok (.iload 7, 2) := by decide +kernel
theorem dX1_linkStem_71 : decode cX1_linkStem 71 = .ok (.istore 4, 2) := by decide +kernel
theorem dX1_linkStem_73 : decode cX1_linkStem 73 = .ok (.iconst 0, 1) := by decide +kernel
theorem dX1_linkStem_74 : decode cX1_linkStem 74 = .ok (.istore 6, 2) := by decide +kernel
theorem dX1_linkStem_76 : decode cX1_linkStem 76 = .ok (.iload 7, 2) := by decide +kernel
theorem dX1_linkStem_78 : decode cX1_linkStem 78 = .ok (.istore 5, 2) := by decide +kernel
theorem dX1_linkStem_80 : decode cX1_linkStem 80 = .ok (.iload 6, 2) := by decide +kernel
theorem dX1_linkStem_82 : decode cX1_linkStem 82 = .ok (.iload 8, 2) := by decide +kernel
theorem dX1_linkStem_84 : decode cX1_linkStem 84 = .ok (.iadd, 1) := by decide +kernel
theorem dX1_linkStem_85 : decode cX1_linkStem 85 = .ok (.istore 6, 2) := by decide +kernel
theorem dX1_linkStem_87 : decode cX1_linkStem 87 = .ok (.iinc 7 1, 3) := by decide +kernel
theorem dX1_linkStem_90 : decode cX1_linkStem 90 = .ok (.goto (-71), 3) := by decide +kernel
theorem dX1_linkStem_93 : decode cX1_linkStem 93 = .ok (.aload_n 0, 1) := by decide +kernel
theorem dX1_linkStem_94 : decode cX1_linkStem 94 = .ok (.iload_n 2, 1) := by decide +kernel
theorem dX1_linkStem_95 : decode cX1_linkStem 95 = .ok (.iload 4, 2) := by decide +kernel
theorem dX1_linkStem_97 : decode cX1_linkStem 97 = .ok (.iload 5, 2) := by decide +kernel
theorem dX1_linkStem_99 : decode cX1_linkStem 99 = .ok (.iload 6, 2) := by decide +kernel
theorem dX1_linkStem_101 : decode cX1_linkStem 101 = .ok (.invokevirtual 43, 3) := by decide +kernel
theorem dX1_linkStem_104 : decode cX1_linkStem 104 = .ok (.return_, 1) := by decide +kernel
theorem dX1_keep_0 : decode cX1_keep 0 = .ok (.iload 4, 2) := by decide +kernel
theorem dX1_keep_2 : decode cX1_keep 2 = .ok (.iconst 2, 1) := by decide +kernel
theorem dX1_keep_3 : decode cX1_keep 3 = .ok (.if_icmp .lt 12, 3) := by decide +kernel
theorem dX1_keep_6 : decode cX1_keep 6 = .ok (.aload_n 0, 1) := by decide +kernel
theorem dX1_keep_7 : decode cX1_keep 7 = .ok (.getfield 9, 3) := by decide +kernel
theorem dX1_keep_10 : decode cX1_keep 10 = .ok (.bipush 100, 2) := by decide +kernel
theorem dX1_keep_12 : decode cX1_keep 12 = .ok (.if_icmp .lt 4, 3) := by decide +kernel
theorem dX1_keep_15 : decode cX1_keep 15 = .ok (.return_, 1) := by decide +kernel
theorem dX1_keep_16 : decode cX1_keep 16 = .ok (.aload_n 0, 1) := by decide +kernel
theorem dX1_keep_17 : decode cX1_keep 17 = .ok (.getfield 15, 3) := by decide +kernel
theorem dX1_keep_20 : decode cX1_keep 20 = .ok (.aload_n 0, 1) := by decide +kernel
theorem dX1_keep_21 : decode cX1_keep 21 = .ok (.getfield 9, 3) := by decide +kernel
theorem dX1_keep_24 : decode cX1_keep 24 = .ok (.iload_n 1, 1) := by decide +kernel
theorem dX1_keep_25 : decode cX1_keep 25 = .ok (.iastore, 1) := by decide +kernel
theorem dX1_keep_26 : decode cX1_keep 26 = .ok (.aload_n 0, 1) := by decide +kernel
theorem dX1_keep_27 : decode cX1_keep 27 = .ok (.getfield 19, 3) := by decide +kernel
theorem dX1_keep_30 : decode cX1_keep 30 = .ok (.aload_n 0, 1) := by decide +kernel
theorem dX1_keep_31 : decode cX1_keep 31 = .ok (.getfield 9, 3) := by decide +kernel
theorem dX1_keep_34 : decode cX1_keep 34 = .ok (.iload_n 2, 1) := by decide +kernel
theorem dX1_keep_35 : decode cX1_keep 35 = .ok (.iastore, 1) := by decide +kernel
theorem dX1_keep_36 : decode cX1_keep 36 = .ok (.aload_n 0, 1) := by decide +kernel
theorem dX1_keep_37 : decode cX1_keep 37 = .ok (.getfield 22, 3) := by decide +kernel
theorem dX1_keep_40 : decode cX1_keep 40 = .ok (.aload_n 0, 1) := by decide +kernel
theorem dX1_keep_41 : decode cX1_keep 41 = .ok (.getfield 9, 3) := by decide +kernel
theorem dX1_keep_44 : decode cX1_keep 44 = .ok (.iload_n 3, 1) := by decide +kernel
theorem dX1_keep_45 : decode cX1_keep 45 = .ok (.iastore, 1) := by decide +kernel
theorem dX1_keep_46 : decode cX1_keep 46 = .ok (.aload_n 0, 1) := by decide +kernel
theorem dX1_keep_47 : decode cX1_keep 47 = .ok (.getfield 25, 3) := by decide +kernel
theorem dX1_keep_50 : decode cX1_keep 50 = .ok (.aload_n 0, 1) := by decide +kernel
theorem dX1_keep_51 : decode cX1_keep 51 = .ok (.getfield 9, 3) := by decide +kernel
theorem dX1_keep_54 : decode cX1_keep 54 = .ok (.iload 4, 2) := by decide +kernel
theorem dX1_keep_56 : decode cX1_keep 56 = .ok (.iastore, 1) := by decide +kernel
theorem dX1_keep_57 : decode cX1_keep 57 = .ok (.aload_n 0, 1) := by decide +kernel
theorem dX1_keep_58 : decode cX1_keep 58 = .ok (.dup, 1) := by decide +kernel
theorem dX1_keep_59 : decode cX1_keep 59 = .ok (.getfield 9, 3) := by decide +kernel
theorem dX1_keep_62 : decode cX1_keep 62 = .ok (.iconst 1, 1) := by decide +kernel
theorem dX1_keep_63 : decode cX1_keep 63 = .ok (.iadd, 1) := by decide +kernel
theorem dX1_keep_64 : decode cX1_keep 64 = .ok (.putfield 9, 3) := by decide +kernel
theorem dX1_keep_67 : decode cX1_keep 67 = .ok (.return_, 1) := by decide +kernel
theorem dX1_weightOf_0 : decode cX1_weightOf 0 = .ok (.aload_n 0, 1) := by decide +kernel
theorem dX1_weightOf_1 : decode cX1_weightOf 1 = .ok (.getfield 25, 3) := by decide +kernel
theorem dX1_weightOf_4 : decode cX1_weightOf 4 = .ok (.iload_n 1, 1) := by decide +kernel
theorem dX1_weightOf_5 : decode cX1_weightOf 5 = .ok (.iaload, 1) := by decide +kernel
theorem dX1_weightOf_6 : decode cX1_weightOf 6 = .ok (.aload_n 0, 1) := by decide +kernel
theorem dX1_weightOf_7 : decode cX1_weightOf 7 = .ok (.getfield 22, 3) := by decide +kernel
theorem dX1_weightOf_10 : decode cX1_weightOf 10 = .ok (.iload_n 1, 1) := by decide +kernel
theorem dX1_weightOf_11 : decode cX1_weightOf 11 = .ok (.iaload, 1) := by decide +kernel
theorem dX1_weightOf_12 : decode cX1_weightOf 12 = .ok (.aload_n 0, 1) := by decide +kernel
theorem dX1_weightOf_13 : decode cX1_weightOf 13 = .ok (.getfield 19, 3) := by decide +kernel
theorem dX1_weightOf_16 : decode cX1_weightOf 16 = .ok (.iload_n 1, 1) := by decide +kernel
theorem dX1_weightOf_17 : decode cX1_weightOf 17 = .ok (.iaload, 1) := by decide +kernel
theorem dX1_weightOf_18 : decode cX1_weightOf 18 = .ok (.isub, 1) := by decide +kernel
theorem dX1_weightOf_19 : decode cX1_weightOf 19 = .ok (.iconst 1, 1) := by decide +kernel
theorem dX1_weightOf_20 : decode cX1_weightOf 20 = .ok (.iadd, 1) := by decide +kernel
theorem dX1_weightOf_21 : decode cX1_weightOf 21 = .ok (.imul, 1) := by decide +kernel
theorem dX1_weightOf_22 : decode cX1_weightOf 22 = .ok (.ireturn, 1) := by decide +kernel
theorem dX1_goesOver_0 : decode cX1_goesOver 0 = .ok (.aload_n 0, 1) := by decide +kernel
theorem dX1_goesOver_1 : decode cX1_goesOver 1 = .ok (.getfield 19, 3) := by decide +kernel
theorem dX1_goesOver_4 : decode cX1_goesOver 4 = .ok (.iload_n 1, 1) := by decide +kernel
theorem dX1_goesOver_5 : decode cX1_goesOver 5 = .ok (.iaload, 1) := by decide +kernel
theorem dX1_goesOver_6 : decode cX1_goesOver 6 = .ok (.iload_n 2, 1) := by decide +kernel
theorem dX1_goesOver_7 : decode cX1_goesOver 7 = .ok (.if_icmp .ge 17, 3) := by decide +kernel
theorem dX1_goesOver_10 : decode cX1_goesOver 10 = .ok (.aload_n 0, 1) := by decide +kernel
theorem dX1_goesOver_11 : decode cX1_goesOver 11 = .ok (.getfield 22, 3) := by decide +kernel
theorem dX1_goesOver_14 : decode cX1_goesOver 14 = .ok (.iload_n 1, 1) := by decide +kernel
theorem dX1_goesOver_15 : decode cX1_goesOver 15 = .ok (.iaload, 1) := by decide +kernel
theorem dX1_goesOver_16 : decode cX1_goesOver 16 = .ok (.iload_n 2, 1) := by decide +kernel
theorem dX1_goesOver_17 : decode cX1_goesOver 17 = .ok (.if_icmp .lt 7, 3) := by decide +kernel
theorem dX1_goesOver_20 : decode cX1_goesOver 20 = .ok (.iconst 1, 1) := by decide +kernel
theorem dX1_goesOver_21 : decode cX1_goesOver 21 = .ok (.goto 4, 3) := by decide +kernel
theorem dX1_goesOver_24 : decode cX1_goesOver 24 = .ok (.iconst 0, 1) := by decide +kernel
theorem dX1_goesOver_25 : decode cX1_goesOver 25 = .ok (.ireturn, 1) := by decide +kernel
theorem dX1_numberOver_0 : decode cX1_numberOver 0 = .ok (.iconst 0, 1) := by decide +kernel
theorem dX1_numberOver_1 : decode cX1_numberOver 1 = .ok (.istore_n 2, 1) := by decide +kernel
theorem dX1_numberOver_2 : decode cX1_numberOver 2 = .ok (.iconst 0, 1) := by decide +kernel
theorem dX1_numberOver_3 : decode cX1_numberOver 3 = .ok (.istore_n 3, 1) := by decide +kernel
theorem dX1_numberOver_4 : decode cX1_numberOver 4 = .ok (.iload_n 3, 1) := by decide +kernel
theorem dX1_numberOver_5 : decode cX1_numberOver 5 = .ok (.aload_n 0, 1) := by decide +kernel
theorem dX1_numberOver_6 : decode cX1_numberOver 6 = .ok (.getfield 9, 3) := by decide +kernel
theorem dX1_numberOver_9 : decode cX1_numberOver 9 = .ok (.if_icmp .ge 21, 3) := by decide +kernel
theorem dX1_numberOver_12 : decode cX1_numberOver 12 = .ok (.aload_n 0, 1) := by decide +kernel
theorem dX1_numberOver_13 : decode cX1_numberOver 13 = .ok (.iload_n 3, 1) := by decide +kernel
theorem dX1_numberOver_14 : decode cX1_numberOver 14 = .ok (.iload_n 1, 1) := by decide +kernel
theorem dX1_numberOver_15 : decode cX1_numberOver 15 = .ok (.invokevirtual 47, 3) := by decide +kernel
theorem dX1_numberOver_18 : decode cX1_numberOver 18 = .ok (.ifCond .eq 6, 3) := by decide +kernel
theorem dX1_numberOver_21 : decode cX1_numberOver 21 = .ok (.iinc 2 1, 3) := by decide +kernel
theorem dX1_numberOver_24 : decode cX1_numberOver 24 = .ok (.iinc 3 1, 3) := by decide +kernel
theorem dX1_numberOver_27 : decode cX1_numberOver 27 = .ok (.goto (-23), 3) := by decide +kernel
theorem dX1_numberOver_30 : decode cX1_numberOver 30 = .ok (.iload_n 2, 1) := by decide +kernel
theorem dX1_numberOver_31 : decode cX1_numberOver 31 = .ok (.ireturn, 1) := by decide +kernel
theorem dX1_weightOver_0 : decode cX1_weightOver 0 = .ok (.iconst 0, 1) := by decide +kernel
theorem dX1_weightOver_1 : decode cX1_weightOver 1 = .ok (.istore_n 2, 1) := by decide +kernel
theorem dX1_weightOver_2 : decode cX1_weightOver 2 = .ok (.iconst 0, 1) := by decide +kernel
theorem dX1_weightOver_3 : decode cX1_weightOver 3 = .ok (.istore_n 3, 1) := by decide +kernel
theorem dX1_weightOver_4 : decode cX1_weightOver 4 = .ok (.iload_n 3, 1) := by decide +kernel
theorem dX1_weightOver_5 : decode cX1_weightOver 5 = .ok (.aload_n 0, 1) := by decide +kernel
theorem dX1_weightOver_6 : decode cX1_weightOver 6 = .ok (.getfield 9, 3) := by decide +kernel
theorem dX1_weightOver_9 : decode cX1_weightOver 9 = .ok (.if_icmp .ge 26, 3) := by decide +kernel
theorem dX1_weightOver_12 : decode cX1_weightOver 12 = .ok (.aload_n 0, 1) := by decide +kernel
theorem dX1_weightOver_13 : decode cX1_weightOver 13 = .ok (.iload_n 3, 1) := by decide +kernel
theorem dX1_weightOver_14 : decode cX1_weightOver 14 = .ok (.iload_n 1, 1) := by decide +kernel
theorem dX1_weightOver_15 : decode cX1_weightOver 15 = .ok (.invokevirtual 47, 3) := by decide +kernel
theorem dX1_weightOver_18 : decode cX1_weightOver 18 = .ok (.ifCond .eq 11, 3) := by decide +kernel
theorem dX1_weightOver_21 : decode cX1_weightOver 21 = .ok (.iload_n 2, 1) := by decide +kernel
theorem dX1_weightOver_22 : decode cX1_weightOver 22 = .ok (.aload_n 0, 1) := by decide +kernel
theorem dX1_weightOver_23 : decode cX1_weightOver 23 = .ok (.iload_n 3, 1) := by decide +kernel
theorem dX1_weightOver_24 : decode cX1_weightOver 24 = .ok (.invokevirtual 51, 3) := by decide +kernel
theorem dX1_weightOver_27 : decode cX1_weightOver 27 = .ok (.iadd, 1) := by decide +kernel
theorem dX1_weightOver_28 : decode cX1_weightOver 28 = .ok (.istore_n 2, 1) := by decide +kernel
theorem dX1_weightOver_29 : decode cX1_weightOver 29 = .ok (.iinc 3 1, 3) := by decide +kernel
theorem dX1_weightOver_32 : decode cX1_weightOver 32 = .ok (.goto (-28), 3) := by decide +kernel
theorem dX1_weightOver_35 : decode cX1_weightOver 35 = .ok (.iload_n 2, 1) := by decide +kernel
theorem dX1_weightOver_36 : decode cX1_weightOver 36 = .ok (.ireturn, 1) := by decide +kernel
theorem dX2_init_0 : decode cX2_init 0 = .ok (.aload_n 0, 1) := by decide +kernel
theorem dX2_init_1 : decode cX2_init 1 = .ok (.invokespecial 3, 3) := by decide +kernel
theorem dX2_init_4 : decode cX2_init 4 = .ok (.aload_n 0, 1) := by decide +kernel
theorem dX2_init_5 : decode cX2_init 5 = .ok (.bipush 9, 2) := by decide +kernel
theorem dX2_init_7 : decode cX2_init 7 = .ok (.newarray .int, 2) := by decide +kernel
theorem dX2_init_9 : decode cX2_init 9 = .ok (.putfield 9, 3) := by decide +kernel
theorem dX2_init_12 : decode cX2_init 12 = .ok (.aload_n 0, 1) := by decide +kernel
theorem dX2_init_13 : decode cX2_init 13 = .ok (.bipush 9, 2) := by decide +kernel
theorem dX2_init_15 : decode cX2_init 15 = .ok (.newarray .int, 2) := by decide +kernel
theorem dX2_init_17 : decode cX2_init 17 = .ok (.putfield 15, 3) := by decide +kernel
theorem dX2_init_20 : decode cX2_init 20 = .ok (.aload_n 0, 1) := by decide +kernel
theorem dX2_init_21 : decode cX2_init 21 = .ok (.new 18, 3) := by decide +kernel
theorem dX2_init_24 : decode cX2_init 24 = .ok (.dup, 1) := by decide +kernel
theorem dX2_init_25 : decode cX2_init 25 = .ok (.invokespecial 20, 3) := by decide +kernel
theorem dX2_init_28 : decode cX2_init 28 = .ok (.putfield 21, 3) := by decide +kernel
theorem dX2_init_31 : decode cX2_init 31 = .ok (.aload_n 0, 1) := by decide +kernel
theorem dX2_init_32 : decode cX2_init 32 = .ok (.new 25, 3) := by decide +kernel
theorem dX2_init_35 : decode cX2_init 35 = .ok (.dup, 1) := by decide +kernel
theorem dX2_init_36 : decode cX2_init 36 = .ok (.invokespecial 27, 3) := by decide +kernel
theorem dX2_init_39 : decode cX2_init 39 = .ok (.putfield 28, 3) := by decide +kernel
theorem dX2_init_42 : decode cX2_init 42 = .ok (.return_, 1) := by decide +kernel
theorem dX2_fill_0 : decode cX2_fill 0 = .ok (.iconst 0, 1) := by decide +kernel
theorem dX2_fill_1 : decode cX2_fill 1 = .ok (.istore 4, 2) := by decide +kernel
theorem dX2_fill_3 : decode cX2_fill 3 = .ok (.iload 4, 2) := by decide +kernel
theorem dX2_fill_5 : decode cX2_fill 5 = .ok (.bipush 8, 2) := by decide +kernel
theorem dX2_fill_7 : decode cX2_fill 7 = .ok (.if_icmp .gt 25, 3) := by decide +kernel
theorem dX2_fill_10 : decode cX2_fill 10 = .ok (.aload_n 0, 1) := by decide +kernel
theorem dX2_fill_11 : decode cX2_fill 11 = .ok (.getfield 9, 3) := by decide +kernel
theorem dX2_fill_14 : decode cX2_fill 14 = .ok (.iload 4, 2) := by decide +kernel
theorem dX2_fill_16 : decode cX2_fill 16 = .ok (.iconst (-1), 1) := by decide +kernel
theorem dX2_fill_17 : decode cX2_fill 17 = .ok (.iastore, 1) := by decide +kernel
theorem dX2_fill_18 : decode cX2_fill 18 = .ok (.aload_n 0, 1) := by decide +kernel
theorem dX2_fill_19 : decode cX2_fill 19 = .ok (.getfield 15, 3) := by decide +kernel
theorem dX2_fill_22 : decode cX2_fill 22 = .ok (.iload 4, 2) := by decide +kernel
theorem dX2_fill_24 : decode cX2_fill 24 = .ok (.iconst (-1), 1) := by decide +kernel
theorem dX2_fill_25 : decode cX2_fill 25 = .ok (.iastore, 1) := by decide +kernel
theorem dX2_fill_26 : decode cX2_fill 26 = .ok (.iinc 4 1, 3) := by decide +kernel
theorem dX2_fill_29 : decode cX2_fill 29 = .ok (.goto (-26), 3) := by decide +kernel
theorem dX2_fill_32 : decode cX2_fill 32 = .ok (.aload_n 1, 1) := by decide +kernel
theorem dX2_fill_33 : decode cX2_fill 33 = .ok (.getfield 32, 3) := by decide +kernel
theorem dX2_fill_36 : decode cX2_fill 36 = .ok (.iconst 1, 1) := by decide +kernel
theorem dX2_fill_37 : decode cX2_fill 37 = .ok (.isub, 1) := by decide +kernel
theorem dX2_fill_38 : decode cX2_fill 38 = .ok (.istore 4, 2) := by decide +kernel
theorem dX2_fill_40 : decode cX2_fill 40 = .ok (.iconst 0, 1) := by decide +kernel
theorem dX2_fill_41 : decode cX2_fill 41 = .ok (.istore 5, 2) := by decide +kernel
theorem dX2_fill_43 : decode cX2_fill 43 = .ok (.iload 5, 2) := by decide +kernel
theorem dX2_fill_45 : decode cX2_fill 45 = .ok (.aload_n 1, 1) := by decide +kernel
theorem dX2_fill_46 : decode cX2_fill 46 = .ok (.getfield 32, 3) := by decide +kernel
theorem dX2_fill_49 : decode cX2_fill 49 = .ok (.if_icmp .ge 79, 3) := by decide +kernel
theorem dX2_fill_52 : decode cX2_fill 52 = .ok (.aload_n 0, 1) := by decide +kernel
theorem dX2_fill_53 : decode cX2_fill 53 = .ok (.getfield 21, 3) := by decide +kernel
theorem dX2_fill_56 : decode cX2_fill 56 = .ok (.aload_n 1, 1) := by decide +kernel
theorem dX2_fill_57 : decode cX2_fill 57 = .ok (.iload 5, 2) := by decide +kernel
theorem dX2_fill_59 : decode cX2_fill 59 = .ok (.iload_n 2, 1) := by decide +kernel
theorem dX2_fill_60 : decode cX2_fill 60 = .ok (.iload_n 3, 1) := by decide +kernel
theorem dX2_fill_61 : decode cX2_fill 61 = .ok (.invokevirtual 38, 3) := by decide +kernel
theorem dX2_fill_64 : decode cX2_fill 64 = .ok (.aload_n 0, 1) := by decide +kernel
theorem dX2_fill_65 : decode cX2_fill 65 = .ok (.getfield 28, 3) := by decide +kernel
theorem dX2_fill_68 : decode cX2_fill 68 = .ok (.aload_n 0, 1) := by decide +kernel
theorem dX2_fill_69 : decode cX2_fill 69 = .ok (.getfield 21, 3) := by decide +kernel
theorem dX2_fill_72 : decode cX2_fill 72 = .ok (.getfield 42, 3) := by decide +kernel
theorem dX2_fill_75 : decode cX2_fill 75 = .ok (.iload 4, 2) := by decide +kernel
theorem dX2_fill_77 : decode cX2_fill 77 = .ok (.invokevirtual 46, 3) := by decide +kernel
theorem dX2_fill_80 : decode cX2_fill 80 = .ok (.iconst 1, 1) := by decide +kernel
theorem dX2_fill_81 : decode cX2_fill 81 = .ok (.istore 6, 2) := by decide +kernel
theorem dX2_fill_83 : decode cX2_fill 83 = .ok (.iload 6, 2) := by decide +kernel
theorem dX2_fill_85 : decode cX2_fill 85 = .ok (.bipush 8, 2) := by decide +kernel
theorem dX2_fill_87 : decode cX2_fill 87 = .ok (.if_icmp .gt 35, 3) := by decide +kernel
theorem dX2_fill_90 : decode cX2_fill 90 = .ok (.iload 6, 2) := by decide +kernel
theorem dX2_fill_92 : decode cX2_fill 92 = .ok (.iload 4, 2) := by decide +kernel
theorem dX2_fill_94 : decode cX2_fill 94 = .ok (.if_icmp .gt 28, 3) := by decide +kernel
theorem dX2_fill_97 : decode cX2_fill 97 = .ok (.aload_n 0, 1) := by decide +kernel
theorem dX2_fill_98 : decode cX2_fill 98 = .ok (.iload 6, 2) := by decide +kernel
theorem dX2_fill_100 : decode cX2_fill 100 = .ok (.iload 5, 2) := by decide +kernel
theorem dX2_fill_102 : decode cX2_fill 102 = .ok (.aload_n 0, 1) := by decide +kernel
theorem dX2_fill_103 : decode cX2_fill 103 = .ok (.getfield 28, 3) := by decide +kernel
theorem dX2_fill_106 : decode cX2_fill 106 = .ok (.iload 6, 2) := by decide +kernel
theorem dX2_fill_108 : decode cX2_fill 108 = .ok (.iload 4, 2) := by decide +kernel
theorem dX2_fill_110 : decode cX2_fill 110 = .ok (.invokevirtual 49, 3) := by decide +kernel
theorem dX2_fill_113 : decode cX2_fill 113 = .ok (.invokevirtual 53, 3) := by decide +kernel
theorem dX2_fill_116 : decode cX2_fill 116 = .ok (.iinc 6 1, 3) := by decide +kernel
theorem dX2_fill_119 : decode cX2_fill 119 = .ok (.goto (-36), 3) := by decide +kernel
theorem dX2_fill_122 : decode cX2_fill 122 = .ok (.iinc 5 1, 3) := by decide +kernel
theorem dX2_fill_125 : decode cX2_fill 125 = .ok (.goto (-82), 3) := by decide +kernel
theorem dX2_fill_128 : decode cX2_fill 128 = .ok (.return_, 1) := by decide +kernel
theorem dX2_weigh_0 : decode cX2_weigh 0 = .ok (.aload_n 0, 1) := by decide +kernel
theorem dX2_weigh_1 : decode cX2_weigh 1 = .ok (.getfield 9, 3) := by decide +kernel
theorem dX2_weigh_4 : decode cX2_weigh 4 = .ok (.iload_n 1, 1) := by decide +kernel
theorem dX2_weigh_5 : decode cX2_weigh 5 = .ok (.iaload, 1) := by decide +kernel
theorem dX2_weigh_6 : decode cX2_weigh 6 = .ok (.iconst (-1), 1) := by decide +kernel
theorem dX2_weigh_7 : decode cX2_weigh 7 = .ok (.if_icmp .eq 14, 3) := by decide +kernel
theorem dX2_weigh_10 : decode cX2_weigh 10 = .ok (.iload_n 3, 1) := by decide +kernel
theorem dX2_weigh_11 : decode cX2_weigh 11 = .ok (.aload_n 0, 1) := by decide +kernel
theorem dX2_weigh_12 : decode cX2_weigh 12 = .ok (.getfield 15, 3) := by decide +kernel
theorem dX2_weigh_15 : decode cX2_weigh 15 = .ok (.iload_n 1, 1) := by decide +kernel
theorem dX2_weigh_16 : decode cX2_weigh 16 = .ok (.iaload, 1) := by decide +kernel
theorem dX2_weigh_17 : decode cX2_weigh 17 = .ok (.if_icmp .lt 4, 3) := by decide +kernel
theorem dX2_weigh_20 : decode cX2_weigh 20 = .ok (.return_, 1) := by decide +kernel
theorem dX2_weigh_21 : decode cX2_weigh 21 = .ok (.aload_n 0, 1) := by decide +kernel
theorem dX2_weigh_22 : decode cX2_weigh 22 = .ok (.getfield 9, 3) := by decide +kernel
theorem dX2_weigh_25 : decode cX2_weigh 25 = .ok (.iload_n 1, 1) := by decide +kernel
theorem dX2_weigh_26 : decode cX2_weigh 26 = .ok (.iload_n 2, 1) := by decide +kernel
theorem dX2_weigh_27 : decode cX2_weigh 27 = .ok (.iastore, 1) := by decide +kernel
theorem dX2_weigh_28 : decode cX2_weigh 28 = .ok (.aload_n 0, 1) := by decide +kernel
theorem dX2_weigh_29 : decode cX2_weigh 29 = .ok (.getfield 15, 3) := by decide +kernel
theorem dX2_weigh_32 : decode cX2_weigh 32 = .ok (.iload_n 1, 1) := by decide +kernel
theorem dX2_weigh_33 : decode cX2_weigh 33 = .ok (.iload_n 3, 1) := by decide +kernel
theorem dX2_weigh_34 : decode cX2_weigh 34 = .ok (.iastore, 1) := by decide +kernel
theorem dX2_weigh_35 : decode cX2_weigh 35 = .ok (.return_, 1) := by decide +kernel
theorem dX3_init_0 : decode cX3_init 0 = .ok (.aload_n 0, 1) := by decide +kernel
theorem dX3_init_1 : decode cX3_init 1 = .ok (.invokespecial 3, 3) := by decide +kernel
theorem dX3_init_4 : decode cX3_init 4 = .ok (.aload_n 0, 1) := by decide +kernel
theorem dX3_init_5 : decode cX3_init 5 = .ok (.iconst (-1), 1) := by decide +kernel
theorem dX3_init_6 : decode cX3_init 6 = .ok (.putfield 9, 3) := by decide +kernel
theorem dX3_init_9 : decode cX3_init 9 = .ok (.aload_n 0, 1) := by decide +kernel
theorem dX3_init_10 : decode cX3_init 10 = .ok (.iconst (-1), 1) := by decide +kernel
theorem dX3_init_11 : decode cX3_init 11 = .ok (.putfield 15, 3) := by decide +kernel
theorem dX3_init_14 : decode cX3_init 14 = .ok (.aload_n 0, 1) := by decide +kernel
theorem dX3_init_15 : decode cX3_init 15 = .ok (.iconst (-1), 1) := by decide +kernel
theorem dX3_init_16 : decode cX3_init 16 = .ok (.putfield 18, 3) := by decide +kernel
theorem dX3_init_19 : decode cX3_init 19 = .ok (.return_, 1) := by decide +kernel
theorem dX3_seek_0 : decode cX3_seek 0 = .ok (.aload_n 0, 1) := by decide +kernel
theorem dX3_seek_1 : decode cX3_seek 1 = .ok (.iconst 0, 1) := by decide +kernel
theorem dX3_seek_2 : decode cX3_seek 2 = .ok (.putfield 21, 3) := by decide +kernel
theorem dX3_seek_5 : decode cX3_seek 5 = .ok (.aload_n 0, 1) := by decide +kernel
theorem dX3_seek_6 : decode cX3_seek 6 = .ok (.iconst 0, 1) := by decide +kernel
theorem dX3_seek_7 : decode cX3_seek 7 = .ok (.putfield 24, 3) := by decide +kernel
theorem dX3_seek_10 : decode cX3_seek 10 = .ok (.aload_n 0, 1) := by decide +kernel
theorem dX3_seek_11 : decode cX3_seek 11 = .ok (.iconst 0, 1) := by decide +kernel
theorem dX3_seek_12 : decode cX3_seek 12 = .ok (.putfield 27, 3) := by decide +kernel
theorem dX3_seek_15 : decode cX3_seek 15 = .ok (.aload_n 0, 1) := by decide +kernel
theorem dX3_seek_16 : decode cX3_seek 16 = .ok (.iconst 0, 1) := by decide +kernel
theorem dX3_seek_17 : decode cX3_seek 17 = .ok (.putfield 30, 3) := by decide +kernel
theorem dX3_seek_20 : decode cX3_seek 20 = .ok (.iconst 0, 1) := by decide +kernel
theorem dX3_seek_21 : decode cX3_seek 21 = .ok (.istore_n 2, 1) := by decide +kernel
theorem dX3_seek_22 : decode cX3_seek 22 = .ok (.iload_n 2, 1) := by decide +kernel
theorem dX3_seek_23 : decode cX3_seek 23 = .ok (.aload_n 1, 1) := by decide +kernel
theorem dX3_seek_24 : decode cX3_seek 24 = .ok (.getfield 34, 3) := by decide +kernel
theorem dX3_seek_27 : decode cX3_seek 27 = .ok (.if_icmp .ge 46, 3) := by decide +kernel
theorem dX3_seek_30 : decode cX3_seek 30 = .ok (.aload_n 0, 1) := by decide +kernel
theorem dX3_seek_31 : decode cX3_seek 31 = .ok (.aload_n 1, 1) := by decide +kernel
theorem dX3_seek_32 : decode cX3_seek 32 = .ok (.getfield 39, 3) := by decide +kernel
theorem dX3_seek_35 : decode cX3_seek 35 = .ok (.iload_n 2, 1) := by decide +kernel
theorem dX3_seek_36 : decode cX3_seek 36 = .ok (.iaload, 1) := by decide +kernel
theorem dX3_seek_37 : decode cX3_seek 37 = .ok (.invokevirtual 43, 3) := by decide +kernel
theorem dX3_seek_40 : decode cX3_seek 40 = .ok (.istore_n 3, 1) := by decide +kernel
theorem dX3_seek_41 : decode cX3_seek 41 = .ok (.iload_n 3, 1) := by decide +kernel
theorem dX3_seek_42 : decode cX3_seek 42 = .ok (.iconst (-1), 1) := by decide +kernel
theorem dX3_seek_43 : decode cX3_seek 43 = .ok (.if_icmp .eq 14, 3) := by decide +kernel
theorem dX3_seek_46 : decode cX3_seek 46 = .ok (.aload_n 0, 1) := by decide +kernel
theorem dX3_seek_47 : decode cX3_seek 47 = .ok (.iload_n 2, 1) := by decide +kernel
theorem dX3_seek_48 : decode cX3_seek 48 = .ok (.iload_n 3, 1) := by decide +kernel
theorem dX3_seek_49 : decode cX3_seek 49 = .ok (.aload_n 0, 1) := by decide +kernel
theorem dX3_seek_50 : decode cX3_seek 50 = .ok (.getfield 27, 3) := by decide +kernel
theorem dX3_seek_53 : decode cX3_seek 53 = .ok (.invokevirtual 47, 3) := by decide +kernel
theorem dX3_seek_56 : decode cX3_seek 56 = .ok (.return_, 1) := by decide +kernel
theorem dX3_seek_57 : decode cX3_seek 57 = .ok (.aload_n 0, 1) := by decide +kernel
theorem dX3_seek_58 : decode cX3_seek 58 = .ok (.aload_n 1, 1) := by decide +kernel
theorem dX3_seek_59 : decode cX3_seek 59 = .ok (.getfield 39, 3) := by decide +kernel
theorem dX3_seek_62 : decode cX3_seek 62 = .ok (.iload_n 2, 1) := by decide +kernel
theorem dX3_seek_63 : decode cX3_seek 63 = .ok (.iaload, 1) := by decide +kernel
theorem dX3_seek_64 : decode cX3_seek 64 = .ok (.invokevirtual 51, 3) := by decide +kernel
theorem dX3_seek_67 : decode cX3_seek 67 = .ok (.iinc 2 1, 3) := by decide +kernel
theorem dX3_seek_70 : decode cX3_seek 70 = .ok (.goto (-48), 3) := by decide +kernel
theorem dX3_seek_73 : decode cX3_seek 73 = .ok (.aload_n 0, 1) := by decide +kernel
theorem dX3_seek_74 : decode cX3_seek 74 = .ok (.getfield 24, 3) := by decide +kernel
theorem dX3_seek_77 : decode cX3_seek 77 = .ok (.ifCond .le 19, 3) := by decide +kernel
theorem dX3_seek_80 : decode cX3_seek 80 = .ok (.aload_n 0, 1) := by decide +kernel
theorem dX3_seek_81 : decode cX3_seek 81 = .ok (.aload_n 1, 1) := by decide +kernel
theorem dX3_seek_82 : decode cX3_seek 82 = .ok (.getfield 34, 3) := by decide +kernel
theorem dX3_seek_85 : decode cX3_seek 85 = .ok (.iconst 5, 1) := by decide +kernel
theorem dX3_seek_86 : decode cX3_seek 86 = .ok (.aload_n 0, 1) := by decide +kernel
theorem dX3_seek_87 : decode cX3_seek 87 = .ok (.getfield 27, 3) := by decide +kernel
theorem dX3_seek_90 : decode cX3_seek 90 = .ok (.invokevirtual 47, 3) := by decide +kernel
theorem dX3_seek_93 : decode cX3_seek 93 = .ok (.goto 10, 3) := by decide +kernel
theorem dX3_seek_96 : decode cX3_seek 96 = .ok (.aload_n 0, 1) := by decide +kernel
theorem dX3_seek_97 : decode cX3_seek 97 = .ok (.iconst (-1), 1) := by decide +kernel
theorem dX3_seek_98 : decode cX3_seek 98 = .ok (.iconst (-1), 1) := by decide +kernel
theorem dX3_seek_99 : decode cX3_seek 99 = .ok (.iconst (-1), 1) := by decide +kernel
theorem dX3_seek_100 : decode cX3_seek 100 = .ok (.invokevirtual 47, 3) := by decide +kernel
theorem dX3_seek_103 : decode cX3_seek 103 = .ok (.return_, 1) := by decide +kernel
theorem dX3_keep_0 : decode cX3_keep 0 = .ok (.aload_n 0, 1) := by decide +kernel
theorem dX3_keep_1 : decode cX3_keep 1 = .ok (.iload_n 1, 1) := by decide +kernel
theorem dX3_keep_2 : decode cX3_keep 2 = .ok (.putfield 9, 3) := by decide +kernel
theorem dX3_keep_5 : decode cX3_keep 5 = .ok (.aload_n 0, 1) := by decide +kernel
theorem dX3_keep_6 : decode cX3_keep 6 = .ok (.iload_n 2, 1) := by decide +kernel
theorem dX3_keep_7 : decode cX3_keep 7 = .ok (.putfield 15, 3) := by decide +kernel
theorem dX3_keep_10 : decode cX3_keep 10 = .ok (.aload_n 0, 1) := by decide +kernel
theorem dX3_keep_11 : decode cX3_keep 11 = .ok (.iload_n 3, 1) := by decide +kernel
theorem dX3_keep_12 : decode cX3_keep 12 = .ok (.putfield 18, 3) := by decide +kernel
theorem dX3_keep_15 : decode cX3_keep 15 = .ok (.return_, 1) := by decide +kernel
theorem dX3_reasonAgainst_0 : decode cX3_reasonAgainst 0 = .ok (.iload_n 1, 1) := by decide +kernel
theorem dX3_reasonAgainst_1 : decode cX3_reasonAgainst 1 = .ok (.invokestatic 55, 3) := by decide +kernel
theorem dX3_reasonAgainst_4 : decode cX3_reasonAgainst 4 = .ok (.ifCond .eq 38, 3) := by decide +kernel
theorem dX3_reasonAgainst_7 : decode cX3_reasonAgainst 7 = .ok (.aload_n 0, 1) := by decide +kernel
theorem dX3_reasonAgainst_8 : decode cX3_reasonAgainst 8 = .ok (.getfield 21, 3) := by decide +kernel
theorem dX3_reasonAgainst_11 : decode cX3_reasonAgainst 11 = .ok (.ifCond .ne 16, 3) := by decide +kernel
theorem dX3_reasonAgainst_14 : decode cX3_reasonAgainst 14 = .ok (.aload_n 0, 1) := by decide +kernel
theorem dX3_reasonAgainst_15 : decode cX3_reasonAgainst 15 = .ok (.invokevirtual 59, 3) := by decide +kernel
theorem dX3_reasonAgainst_18 : decode cX3_reasonAgainst 18 = .ok (.ifCond .eq 7, 3) := by decide +kernel
theorem dX3_reasonAgainst_21 : decode cX3_reasonAgainst 21 = .ok (.iconst (-1), 1) := by decide +kernel
theorem dX3_reasonAgainst_22 : decode cX3_reasonAgainst 22 = .ok (.goto 4, 3) := by decide +kernel
theorem dX3_reasonAgainst_25 : decode cX3_reasonAgainst 25 = .ok (.iconst 4, 1) := by decide +kernel
theorem dX3_reasonAgainst_26 : decode cX3_reasonAgainst 26 = .ok (.ireturn, 1) := by decide +kernel
theorem dX3_reasonAgainst_27 : decode cX3_reasonAgainst 27 = .ok (.aload_n 0, 1) := by decide +kernel
theorem dX3_reasonAgainst_28 : decode cX3_reasonAgainst 28 = .ok (.getfield 21, 3) := by decide +kernel
theorem dX3_reasonAgainst_31 : decode cX3_reasonAgainst 31 = .ok (.bipush 10, 2) := by decide +kernel
theorem dX3_reasonAgainst_33 : decode cX3_reasonAgainst 33 = .ok (.if_icmp .ge 7, 3) := by decide +kernel
theorem dX3_reasonAgainst_36 : decode cX3_reasonAgainst 36 = .ok (.iconst (-1), 1) := by decide +kernel
theorem dX3_reasonAgainst_37 : decode cX3_reasonAgainst 37 = .ok (.goto 4, 3) := by decide +kernel
theorem dX3_reasonAgainst_40 : decode cX3_reasonAgainst 40 = .ok (.iconst 2, 1) := by decide +kernel
theorem dX3_reasonAgainst_41 : decode cX3_reasonAgainst 41 = .ok (.ireturn, 1) := by decide +kernel
theorem dX3_reasonAgainst_42 : decode cX3_reasonAgainst 42 = .ok (.iload_n 1, 1) := by decide +kernel
theorem dX3_reasonAgainst_43 : decode cX3_reasonAgainst 43 = .ok (.bipush 32, 2) := by decide +kernel
theorem dX3_reasonAgainst_45 : decode cX3_reasonAgainst 45 = .ok (.if_icmp .eq 11, 3) := by decide +kernel
theorem dX3_reasonAgainst_48 : decode cX3_reasonAgainst 48 = .ok (.iload_n 1, 1) := by decide +kernel
theorem dX3_reasonAgainst_49 : decode cX3_reasonAgainst 49 = .ok (.bipush 46, 2) := by decide +kernel
theorem dX3_reasonAgainst_51 : decode cX3_reasonAgainst 51 = .ok (.if_icmp .eq 5, 3) := by decide +kernel
theorem dX3_reasonAgainst_54 : decode cX3_reasonAgainst 54 = .ok (.iconst 1, 1) := by decide +kernel
theorem dX3_reasonAgainst_55 : decode cX3_reasonAgainst 55 = .ok (.ireturn, 1) := by decide +kernel
theorem dX3_reasonAgainst_56 : decode cX3_reasonAgainst 56 = .ok (.aload_n 0, 1) := by decide +kernel
theorem dX3_reasonAgainst_57 : decode cX3_reasonAgainst 57 = .ok (.getfield 21, 3) := by decide +kernel
theorem dX3_reasonAgainst_60 : decode cX3_reasonAgainst 60 = .ok (.ifCond .le 5, 3) := by decide +kernel
theorem dX3_reasonAgainst_63 : decode cX3_reasonAgainst 63 = .ok (.iconst (-1), 1) := by decide +kernel
theorem dX3_reasonAgainst_64 : decode cX3_reasonAgainst 64 = .ok (.ireturn, 1) := by decide +kernel
theorem dX3_reasonAgainst_65 : decode cX3_reasonAgainst 65 = .ok (.iload_n 1, 1) := by decide +kernel
theorem dX3_reasonAgainst_66 : decode cX3_reasonAgainst 66 = .ok (.bipush 32, 2) := by decide +kernel
theorem dX3_reasonAgainst_68 : decode cX3_reasonAgainst 68 = .ok (.if_icmp .ne 14, 3) := by decide +kernel
theorem dX3_reasonAgainst_71 : decode cX3_reasonAgainst 71 = .ok (.aload_n 0, 1) := by decide +kernel
theorem dX3_reasonAgainst_72 : decode cX3_reasonAgainst 72 = .ok (.getfield 30, 3) := by decide +kernel
theorem dX3_reasonAgainst_75 : decode cX3_reasonAgainst 75 = .ok (.ifCond .eq 7, 3) := by decide +kernel
theorem dX3_reasonAgainst_78 : decode cX3_reasonAgainst 78 = .ok (.iconst (-1), 1) := by decide +kernel
theorem dX3_reasonAgainst_79 : decode cX3_reasonAgainst 79 = .ok (.goto 4, 3) := by decide +kernel
theorem dX3_reasonAgainst_82 : decode cX3_reasonAgainst 82 = .ok (.iconst 3, 1) := by decide +kernel
theorem dX3_reasonAgainst_83 : decode cX3_reasonAgainst 83 = .ok (.ireturn, 1) := by decide +kernel
theorem dX3_mayBegin_0 : decode cX3_mayBegin 0 = .ok (.aload_n 0, 1) := by decide +kernel
theorem dX3_mayBegin_1 : decode cX3_mayBegin 1 = .ok (.getfield 27, 3) := by decide +kernel
theorem dX3_mayBegin_4 : decode cX3_mayBegin 4 = .ok (.bipush 12, 2) := by decide +kernel
theorem dX3_mayBegin_6 : decode cX3_mayBegin 6 = .ok (.if_icmp .ge 16, 3) := by decide +kernel
theorem dX3_mayBegin_9 : decode cX3_mayBegin 9 = .ok (.aload_n 0, 1) := by decide +kernel
theorem dX3_mayBegin_10 : decode cX3_mayBegin 10 = .ok (.getfield 24, 3) := by decide +kernel
theorem dX3_mayBegin_13 : decode cX3_mayBegin 13 = .ok (.bipush 9, 2) := by decide +kernel
theorem dX3_mayBegin_15 : decode cX3_mayBegin 15 = .ok (.if_icmp .ge 7, 3) := by decide +kernel
theorem dX3_mayBegin_18 : decode cX3_mayBegin 18 = .ok (.iconst 1, 1) := by decide +kernel
theorem dX3_mayBegin_19 : decode cX3_mayBegin 19 = .ok (.goto 4, 3) := by decide +kernel
theorem dX3_mayBegin_22 : decode cX3_mayBegin 22 = .ok (.iconst 0, 1) := by decide +kernel
theorem dX3_mayBegin_23 : decode cX3_mayBegin 23 = .ok (.ireturn, 1) := by decide +kernel
theorem dX3_take_0 : decode cX3_take 0 = .ok (.aload_n 0, 1) := by decide +kernel
theorem dX3_take_1 : decode cX3_take 1 = .ok (.iload_n 1, 1) := by decide +kernel
theorem dX3_take_2 : decode cX3_take 2 = .ok (.bipush 46, 2) := by decide +kernel
theorem dX3_take_4 : decode cX3_take 4 = .ok (.if_icmp .ne 7, 3) := by decide +kernel
theorem dX3_take_7 : decode cX3_take 7 = .ok (.iconst 1, 1) := by decide +kernel
theorem dX3_take_8 : decode cX3_take 8 = .ok (.goto 4, 3) := by decide +kernel
theorem dX3_take_11 : decode cX3_take 11 = .ok (.iconst 0, 1) := by decide +kernel
theorem dX3_take_12 : decode cX3_take 12 = .ok (.putfield 30, 3) := by decide +kernel
theorem dX3_take_15 : decode cX3_take 15 = .ok (.iload_n 1, 1) := by decide +kernel
theorem dX3_take_16 : decode cX3_take 16 = .ok (.invokestatic 55, 3) := by decide +kernel
theorem dX3_take_19 : decode cX3_take 19 = .ok (.ifCond .eq 31, 3) := by decide +kernel
theorem dX3_take_22 : decode cX3_take 22 = .ok (.aload_n 0, 1) := by decide +kernel
theorem dX3_take_23 : decode cX3_take 23 = .ok (.getfield 21, 3) := by decide +kernel
theorem dX3_take_26 : decode cX3_take 26 = .ok (.ifCond .ne 13, 3) := by decide +kernel
theorem dX3_take_29 : decode cX3_take 29 = .ok (.aload_n 0, 1) := by decide +kernel
theorem dX3_take_30 : decode cX3_take 30 = .ok (.dup, 1) := by decide +kernel
theorem dX3_take_31 : decode cX3_take 31 = .ok (.getfield 24, 3) := by decide +kernel
theorem dX3_take_34 : decode cX3_take 34 = .ok (.iconst 1, 1) := by decide +kernel
theorem dX3_take_35 : decode cX3_take 35 = .ok (.iadd, 1) := by decide +kernel
theorem dX3_take_36 : decode cX3_take 36 = .ok (.putfield 24, 3) := by decide +kernel
theorem dX3_take_39 : decode cX3_take 39 = .ok (.aload_n 0, 1) := by decide +kernel
theorem dX3_take_40 : decode cX3_take 40 = .ok (.dup, 1) := by decide +kernel
theorem dX3_take_41 : decode cX3_take 41 = .ok (.getfield 21, 3) := by decide +kernel
theorem dX3_take_44 : decode cX3_take 44 = .ok (.iconst 1, 1) := by decide +kernel
theorem dX3_take_45 : decode cX3_take 45 = .ok (.iadd, 1) := by decide +kernel
theorem dX3_take_46 : decode cX3_take 46 = .ok (.putfield 21, 3) := by decide +kernel
theorem dX3_take_49 : decode cX3_take 49 = .ok (.return_, 1) := by decide +kernel
theorem dX3_take_50 : decode cX3_take 50 = .ok (.aload_n 0, 1) := by decide +kernel
theorem dX3_take_51 : decode cX3_take 51 = .ok (.iconst 0, 1) := by decide +kernel
theorem dX3_take_52 : decode cX3_take 52 = .ok (.putfield 21, 3) := by decide +kernel
theorem dX3_take_55 : decode cX3_take 55 = .ok (.iload_n 1, 1) := by decide +kernel
theorem dX3_take_56 : decode cX3_take 56 = .ok (.bipush 46, 2) := by decide +kernel
theorem dX3_take_58 : decode cX3_take 58 = .ok (.if_icmp .ne 18, 3) := by decide +kernel
theorem dX3_take_61 : decode cX3_take 61 = .ok (.aload_n 0, 1) := by decide +kernel
theorem dX3_take_62 : decode cX3_take 62 = .ok (.iconst 0, 1) := by decide +kernel
theorem dX3_take_63 : decode cX3_take 63 = .ok (.putfield 24, 3) := by decide +kernel
theorem dX3_take_66 : decode cX3_take 66 = .ok (.aload_n 0, 1) := by decide +kernel
theorem dX3_take_67 : decode cX3_take 67 = .ok (.dup, 1) := by decide +kernel
theorem dX3_take_68 : decode cX3_take 68 = .ok (.getfield 27, 3) := by decide +kernel
theorem dX3_take_71 : decode cX3_take 71 = .ok (.iconst 1, 1) := by decide +kernel
theorem dX3_take_72 : decode cX3_take 72 = .ok (.iadd, 1) := by decide +kernel
theorem dX3_take_73 : decode cX3_take 73 = .ok (.putfield 27, 3) := by decide +kernel
theorem dX3_take_76 : decode cX3_take 76 = .ok (.return_, 1) := by decide +kernel
theorem dX4_init_0 : decode cX4_init 0 = .ok (.aload_n 0, 1) := by decide +kernel
theorem dX4_init_1 : decode cX4_init 1 = .ok (.invokespecial 3, 3) := by decide +kernel
theorem dX4_init_4 : decode cX4_init 4 = .ok (.aload_n 0, 1) := by decide +kernel
theorem dX4_init_5 : decode cX4_init 5 = .ok (.bipush 12, 2) := by decide +kernel
theorem dX4_init_7 : decode cX4_init 7 = .ok (.newarray .int, 2) := by decide +kernel
theorem dX4_init_9 : decode cX4_init 9 = .ok (.putfield 9, 3) := by decide +kernel
theorem dX4_init_12 : decode cX4_init 12 = .ok (.aload_n 0, 1) := by decide +kernel
theorem dX4_init_13 : decode cX4_init 13 = .ok (.bipush 12, 2) := by decide +kernel
theorem dX4_init_15 : decode cX4_init 15 = .ok (.newarray .int, 2) := by decide +kernel
theorem dX4_init_17 : decode cX4_init 17 = .ok (.putfield 15, 3) := by decide +kernel
theorem dX4_init_20 : decode cX4_init 20 = .ok (.aload_n 0, 1) := by decide +kernel
theorem dX4_init_21 : decode cX4_init 21 = .ok (.bipush 11, 2) := by decide +kernel
theorem dX4_init_23 : decode cX4_init 23 = .ok (.newarray .int, 2) := by decide +kernel
theorem dX4_init_25 : decode cX4_init 25 = .ok (.putfield 18, 3) := by decide +kernel
theorem dX4_init_28 : decode cX4_init 28 = .ok (.return_, 1) := by decide +kernel
theorem dX4_fill_0 : decode cX4_fill 0 = .ok (.aload_n 1, 1) := by decide +kernel
theorem dX4_fill_1 : decode cX4_fill 1 = .ok (.getfield 21, 3) := by decide +kernel
theorem dX4_fill_4 : decode cX4_fill 4 = .ok (.istore_n 3, 1) := by decide +kernel
theorem dX4_fill_5 : decode cX4_fill 5 = .ok (.iconst 1, 1) := by decide +kernel
theorem dX4_fill_6 : decode cX4_fill 6 = .ok (.istore 4, 2) := by decide +kernel
theorem dX4_fill_8 : decode cX4_fill 8 = .ok (.iload 4, 2) := by decide +kernel
theorem dX4_fill_10 : decode cX4_fill 10 = .ok (.iload_n 3, 1) := by decide +kernel
theorem dX4_fill_11 : decode cX4_fill 11 = .ok (.if_icmp .ge 23, 3) := by decide +kernel
theorem dX4_fill_14 : decode cX4_fill 14 = .ok (.aload_n 0, 1) := by decide +kernel
theorem dX4_fill_15 : decode cX4_fill 15 = .ok (.getfield 9, 3) := by decide +kernel
theorem dX4_fill_18 : decode cX4_fill 18 = .ok (.iload 4, 2) := by decide +kernel
theorem dX4_fill_20 : decode cX4_fill 20 = .ok (.aload_n 1, 1) := by decide +kernel
theorem dX4_fill_21 : decode cX4_fill 21 = .ok (.iload 4, 2) := by decide +kernel
theorem dX4_fill_23 : decode cX4_fill 23 = .ok (.iload_n 2, 1) := by decide +kernel
theorem dX4_fill_24 : decode cX4_fill 24 = .ok (.invokestatic 27, 3) := by decide +kernel
theorem dX4_fill_27 : decode cX4_fill 27 = .ok (.iastore, 1) := by decide +kernel
theorem dX4_fill_28 : decode cX4_fill 28 = .ok (.iinc 4 1, 3) := by decide +kernel
theorem dX4_fill_31 : decode cX4_fill 31 = .ok (.goto (-23), 3) := by decide +kernel
theorem dX4_fill_34 : decode cX4_fill 34 = .ok (.iconst 1, 1) := by decide +kernel
theorem dX4_fill_35 : decode cX4_fill 35 = .ok (.istore 4, 2) := by decide +kernel
theorem dX4_fill_37 : decode cX4_fill 37 = .ok (.iload 4, 2) := by decide +kernel
theorem dX4_fill_39 : decode cX4_fill 39 = .ok (.iload_n 3, 1) := by decide +kernel
theorem dX4_fill_40 : decode cX4_fill 40 = .ok (.if_icmp .ge 40, 3) := by decide +kernel
theorem dX4_fill_43 : decode cX4_fill 43 = .ok (.aload_n 0, 1) := by decide +kernel
theorem dX4_fill_44 : decode cX4_fill 44 = .ok (.getfield 15, 3) := by decide +kernel
theorem dX4_fill_47 : decode cX4_fill 47 = .ok (.iload 4, 2) := by decide +kernel
theorem dX4_fill_49 : decode cX4_fill 49 = .ok (.aload_n 0, 1) := by decide +kernel
theorem dX4_fill_50 : decode cX4_fill 50 = .ok (.iload 4, 2) := by decide +kernel
theorem dX4_fill_52 : decode cX4_fill 52 = .ok (.invokevirtual 31, 3) := by decide +kernel
theorem dX4_fill_55 : decode cX4_fill 55 = .ok (.aload_n 0, 1) := by decide +kernel
theorem dX4_fill_56 : decode cX4_fill 56 = .ok (.iload 4, 2) := by decide +kernel
theorem dX4_fill_58 : decode cX4_fill 58 = .ok (.iload_n 3, 1) := by decide +kernel
theorem dX4_fill_59 : decode cX4_fill 59 = .ok (.invokevirtual 35, 3) := by decide +kernel
theorem dX4_fill_62 : decode cX4_fill 62 = .ok (.iadd, 1) := by decide +kernel
theorem dX4_fill_63 : decode cX4_fill 63 = .ok (.iconst 2, 1) := by decide +kernel
theorem dX4_fill_64 : decode cX4_fill 64 = .ok (.aload_n 0, 1) := by decide +kernel
theorem dX4_fill_65 : decode cX4_fill 65 = .ok (.getfield 9, 3) := by decide +kernel
theorem dX4_fill_68 : decode cX4_fill 68 = .ok (.iload 4, 2) := by decide +kernel
theorem dX4_fill_70 : decode cX4_fill 70 = .ok (.iaload, 1) := by decide +kernel
theorem dX4_fill_71 : decode cX4_fill 71 = .ok (.imul, 1) := by decide +kernel
theorem dX4_fill_72 : decode cX4_fill 72 = .ok (.isub, 1) := by decide +kernel
theorem dX4_fill_73 : decode cX4_fill 73 = .ok (.iastore, 1) := by decide +kernel
theorem dX4_fill_74 : decode cX4_fill 74 = .ok (.iinc 4 1, 3) := by decide +kernel
theorem dX4_fill_77 : decode cX4_fill 77 = .ok (.goto (-40), 3) := by decide +kernel
theorem dX4_fill_80 : decode cX4_fill 80 = .ok (.iconst 1, 1) := by decide +kernel
theorem dX4_fill_81 : decode cX4_fill 81 = .ok (.istore 4, 2) := by decide +kernel
theorem dX4_fill_83 : decode cX4_fill 83 = .ok (.iload 4, 2) := by decide +kernel
theorem dX4_fill_85 : decode cX4_fill 85 = .ok (.iload_n 3, 1) := by decide +kernel
theorem dX4_fill_86 : decode cX4_fill 86 = .ok (.if_icmp .ge 15, 3) := by decide +kernel
theorem dX4_fill_89 : decode cX4_fill 89 = .ok (.aload_n 0, 1) := by decide +kernel
theorem dX4_fill_90 : decode cX4_fill 90 = .ok (.iload 4, 2) := by decide +kernel
theorem dX4_fill_92 : decode cX4_fill 92 = .ok (.invokevirtual 39, 3) := by decide +kernel
theorem dX4_fill_95 : decode cX4_fill 95 = .ok (.iinc 4 1, 3) := by decide +kernel
theorem dX4_fill_98 : decode cX4_fill 98 = .ok (.goto (-15), 3) := by decide +kernel
theorem dX4_fill_101 : decode cX4_fill 101 = .ok (.return_, 1) := by decide +kernel
theorem dX4_likeness_0 : decode cX4_likeness 0 = .ok (.iconst 0, 1) := by decide +kernel
theorem dX4_likeness_1 : decode cX4_likeness 1 = .ok (.iload_n 1, 1) := by decide +kernel
theorem dX4_likeness_2 : decode cX4_likeness 2 = .ok (.iload_n 2, 1) := by decide +kernel
theorem dX4_likeness_3 : decode cX4_likeness 3 = .ok (.isub, 1) := by decide +kernel
theorem dX4_likeness_4 : decode cX4_likeness 4 = .ok (.invokestatic 43, 3) := by decide +kernel
theorem dX4_likeness_7 : decode cX4_likeness 7 = .ok (.istore_n 3, 1) := by decide +kernel
theorem dX4_likeness_8 : decode cX4_likeness 8 = .ok (.aload_n 0, 1) := by decide +kernel
theorem dX4_likeness_9 : decode cX4_likeness 9 = .ok (.getfield 21, 3) := by decide +kernel
theorem dX4_likeness_12 : decode cX4_likeness 12 = .ok (.iload_n 1, 1) := by decide +kernel
theorem dX4_likeness_13 : decode cX4_likeness 13 = .ok (.iload_n 2, 1) := by decide +kernel
theorem dX4_likeness_14 : decode cX4_likeness 14 = .ok (.iadd, 1) := by decide +kernel
theorem dX4_likeness_15 : decode cX4_likeness 15 = .ok (.invokestatic 48, 3) := by decide +kernel
theorem dX4_likeness_18 : decode cX4_likeness 18 = .ok (.istore 4, 2) := by decide +kernel
theorem dX4_likeness_20 : decode cX4_likeness 20 = .ok (.iconst 0, 1) := by decide +kernel
theorem dX4_likeness_21 : decode cX4_likeness 21 = .ok (.istore 5, 2) := by decide +kernel
theorem dX4_likeness_23 : decode cX4_likeness 23 = .ok (.iconst 0, 1) := by decide +kernel
theorem dX4_likeness_24 : decode cX4_likeness 24 = .ok (.istore 6, 2) := by decide +kernel
theorem dX4_likeness_26 : decode cX4_likeness 26 = .ok (.iload 6, 2) := by decide +kernel
theorem dX4_likeness_28 : decode cX4_likeness 28 = .ok (.aload_n 0, 1) := by decide +kernel
theorem dX4_likeness_29 : decode cX4_likeness 29 = .ok (.getfield 51, 3) := by decide +kernel
theorem dX4_likeness_32 : decode cX4_likeness 32 = .ok (.if_icmp .ge 34, 3) := by decide +kernel
theorem dX4_likeness_35 : decode cX4_likeness 35 = .ok (.iload 5, 2) := by decide +kernel
theorem dX4_likeness_37 : decode cX4_likeness 37 = .ok (.aload_n 0, 1) := by decide +kernel
theorem dX4_likeness_38 : decode cX4_likeness 38 = .ok (.iload 6, 2) := by decide +kernel
theorem dX4_likeness_40 : decode cX4_likeness 40 = .ok (.iload_n 3, 1) := by decide +kernel
theorem dX4_likeness_41 : decode cX4_likeness 41 = .ok (.iload_n 1, 1) := by decide +kernel
theorem dX4_likeness_42 : decode cX4_likeness 42 = .ok (.invokestatic 54, 3) := by decide +kernel
theorem dX4_likeness_45 : decode cX4_likeness 45 = .ok (.aload_n 0, 1) := by decide +kernel
theorem dX4_likeness_46 : decode cX4_likeness 46 = .ok (.iload 6, 2) := by decide +kernel
theorem dX4_likeness_48 : decode cX4_likeness 48 = .ok (.iload_n 1, 1) := by decide +kernel
theorem dX4_likeness_49 : decode cX4_likeness 49 = .ok (.iload 4, 2) := by decide +kernel
theorem dX4_likeness_51 : decode cX4_likeness 51 = .ok (.invokestatic 54, 3) := by decide +kernel
theorem dX4_likeness_54 : decode cX4_likeness 54 = .ok (.invokestatic 48, 3) := by decide +kernel
theorem dX4_likeness_57 : decode cX4_likeness 57 = .ok (.iadd, 1) := by decide +kernel
theorem dX4_likeness_58 : decode cX4_likeness 58 = .ok (.istore 5, 2) := by decide +kernel
theorem dX4_likeness_60 : decode cX4_likeness 60 = .ok (.iinc 6 1, 3) := by decide +kernel
theorem dX4_likeness_63 : decode cX4_likeness 63 = .ok (.goto (-37), 3) := by decide +kernel
theorem dX4_likeness_66 : decode cX4_likeness 66 = .ok (.iload 5, 2) := by decide +kernel
theorem dX4_likeness_68 : decode cX4_likeness 68 = .ok (.ireturn, 1) := by decide +kernel
theorem dX4_wordsWithin_0 : decode cX4_wordsWithin 0 = .ok (.iconst 0, 1) := by decide +kernel
theorem dX4_wordsWithin_1 : decode cX4_wordsWithin 1 = .ok (.istore 4, 2) := by decide +kernel
theorem dX4_wordsWithin_3 : decode cX4_wordsWithin 3 = .ok (.iload_n 2, 1) := by decide +kernel
theorem dX4_wordsWithin_4 : decode cX4_wordsWithin 4 = .ok (.istore 5, 2) := by decide +kernel
theorem dX4_wordsWithin_6 : decode cX4_wordsWithin 6 = .ok (.iload 5, 2) := by decide +kernel
theorem dX4_wordsWithin_8 : decode cX4_wordsWithin 8 = .ok (.iload_n 3, 1) := by decide +kernel
theorem dX4_wordsWithin_9 : decode cX4_wordsWithin 9 = .ok (.if_icmp .ge 23, 3) := by decide +kernel
theorem dX4_wordsWithin_12 : decode cX4_wordsWithin 12 = .ok (.iload 4, 2) := by decide +kernel
theorem dX4_wordsWithin_14 : decode cX4_wordsWithin 14 = .ok (.aload_n 0, 1) := by decide +kernel
theorem dX4_wordsWithin_15 : decode cX4_wordsWithin 15 = .ok (.getfield 58, 3) := by decide +kernel
theorem dX4_wordsWithin_18 : decode cX4_wordsWithin 18 = .ok (.iload 5, 2) := by decide +kernel
theorem dX4_wordsWithin_20 : decode cX4_wordsWithin 20 = .ok (.aaload, 1) := by decide +kernel
theorem dX4_wordsWithin_21 : decode cX4_wordsWithin 21 = .ok (.iload_n 1, 1) := by decide +kernel
theorem dX4_wordsWithin_22 : decode cX4_wordsWithin 22 = .ok (.iaload, 1) := by decide +kernel
theorem dX4_wordsWithin_23 : decode cX4_wordsWithin 23 = .ok (.iadd, 1) := by decide +kernel
theorem dX4_wordsWithin_24 : decode cX4_wordsWithin 24 = .ok (.istore 4, 2) := by decide +kernel
theorem dX4_wordsWithin_26 : decode cX4_wordsWithin 26 = .ok (.iinc 5 1, 3) := by decide +kernel
theorem dX4_wordsWithin_29 : decode cX4_wordsWithin 29 = .ok (.goto (-23), 3) := by decide +kernel
theorem dX4_wordsWithin_32 : decode cX4_wordsWithin 32 = .ok (.iload 4, 2) := by decide +kernel
theorem dX4_wordsWithin_34 : decode cX4_wordsWithin 34 = .ok (.ireturn, 1) := by decide +kernel
theorem dX4_leftHill_0 : decode cX4_leftHill 0 = .ok (.aload_n 0, 1) := by decide +kernel
theorem dX4_leftHill_1 : decode cX4_leftHill 1 = .ok (.getfield 9, 3) := by decide +kernel
theorem dX4_leftHill_4 : decode cX4_leftHill 4 = .ok (.iload_n 1, 1) := by decide +kernel
theorem dX4_leftHill_5 : decode cX4_leftHill 5 = .ok (.iaload, 1) := by decide +kernel
theorem dX4_leftHill_6 : decode cX4_leftHill 6 = .ok (.istore_n 2, 1) := by decide +kernel
theorem dX4_leftHill_7 : decode cX4_leftHill 7 = .ok (.iload_n 1, 1) := by decide +kernel
theorem dX4_leftHill_8 : decode cX4_leftHill 8 = .ok (.iconst 1, 1) := by decide +kernel
theorem dX4_leftHill_9 : decode cX4_leftHill 9 = .ok (.isub, 1) := by decide +kernel
theorem dX4_leftHill_10 : decode cX4_leftHill 10 = .ok (.istore_n 3, 1) := by decide +kernel
theorem dX4_leftHill_11 : decode cX4_leftHill 11 = .ok (.iload_n 3, 1) := by decide +kernel
theorem dX4_leftHill_12 : decode cX4_leftHill 12 = .ok (.iconst 1, 1) := by decide +kernel
theorem dX4_leftHill_13 : decode cX4_leftHill 13 = .ok (.if_icmp .lt 26, 3) := by decide +kernel
theorem dX4_leftHill_16 : decode cX4_leftHill 16 = .ok (.aload_n 0, 1) := by decide +kernel
theorem dX4_leftHill_17 : decode cX4_leftHill 17 = .ok (.getfield 9, 3) := by decide +kernel
theorem dX4_leftHill_20 : decode cX4_leftHill 20 = .ok (.iload_n 3, 1) := by decide +kernel
theorem dX4_leftHill_21 : decode cX4_leftHill 21 = .ok (.iaload, 1) := by decide +kernel
theorem dX4_leftHill_22 : decode cX4_leftHill 22 = .ok (.iload_n 2, 1) := by decide +kernel
theorem dX4_leftHill_23 : decode cX4_leftHill 23 = .ok (.if_icmp .lt 16, 3) := by decide +kernel
theorem dX4_leftHill_26 : decode cX4_leftHill 26 = .ok (.aload_n 0, 1) := by decide +kernel
theorem dX4_leftHill_27 : decode cX4_leftHill 27 = .ok (.getfield 9, 3) := by decide +kernel
theorem dX4_leftHill_30 : decode cX4_leftHill 30 = .ok (.iload_n 3, 1) := by decide +kernel
theorem dX4_leftHill_31 : decode cX4_leftHill 31 = .ok (.iaload, 1) := by decide +kernel
theorem dX4_leftHill_32 : decode cX4_leftHill 32 = .ok (.istore_n 2, 1) := by decide +kernel
theorem dX4_leftHill_33 : decode cX4_leftHill 33 = .ok (.iinc 3 (-1), 3) := by decide +kernel
theorem dX4_leftHill_36 : decode cX4_leftHill 36 = .ok (.goto (-25), 3) := by decide +kernel
theorem dX4_leftHill_39 : decode cX4_leftHill 39 = .ok (.iload_n 2, 1) := by decide +kernel
theorem dX4_leftHill_40 : decode cX4_leftHill 40 = .ok (.ireturn, 1) := by decide +kernel
theorem dX4_rightHill_0 : decode cX4_rightHill 0 = .ok (.aload_n 0, 1) := by decide +kernel
theorem dX4_rightHill_1 : decode cX4_rightHill 1 = .ok (.getfield 9, 3) := by decide +kernel
theorem dX4_rightHill_4 : decode cX4_rightHill 4 = .ok (.iload_n 1, 1) := by decide +kernel
theorem dX4_rightHill_5 : decode cX4_rightHill 5 = .ok (.iaload, 1) := by decide +kernel
theorem dX4_rightHill_6 : decode cX4_rightHill 6 = .ok (.istore_n 3, 1) := by decide +kernel
theorem dX4_rightHill_7 : decode cX4_rightHill 7 = .ok (.iload_n 1, 1) := by decide +kernel
theorem dX4_rightHill_8 : decode cX4_rightHill 8 = .ok (.iconst 1, 1) := by decide +kernel
theorem dX4_rightHill_9 : decode cX4_rightHill 9 = .ok (.iadd, 1) := by decide +kernel
theorem dX4_rightHill_10 : decode cX4_rightHill 10 = .ok (.istore 4, 2) := by decide +kernel
theorem dX4_rightHill_12 : decode cX4_rightHill 12 = .ok (.iload 4, 2) := by decide +kernel
theorem dX4_rightHill_14 : decode cX4_rightHill 14 = .ok (.iload_n 2, 1) := by decide +kernel
theorem dX4_rightHill_15 : decode cX4_rightHill 15 = .ok (.if_icmp .ge 28, 3) := by decide +kernel
theorem dX4_rightHill_18 : decode cX4_rightHill 18 = .ok (.aload_n 0, 1) := by decide +kernel
theorem dX4_rightHill_19 : decode cX4_rightHill 19 = .ok (.getfield 9, 3) := by decide +kernel
theorem dX4_rightHill_22 : decode cX4_rightHill 22 = .ok (.iload 4, 2) := by decide +kernel
theorem dX4_rightHill_24 : decode cX4_rightHill 24 = .ok (.iaload, 1) := by decide +kernel
theorem dX4_rightHill_25 : decode cX4_rightHill 25 = .ok (.iload_n 3, 1) := by decide +kernel
theorem dX4_rightHill_26 : decode cX4_rightHill 26 = .ok (.if_icmp .lt 17, 3) := by decide +kernel
theorem dX4_rightHill_29 : decode cX4_rightHill 29 = .ok (.aload_n 0, 1) := by decide +kernel
theorem dX4_rightHill_30 : decode cX4_rightHill 30 = .ok (.getfield 9, 3) := by decide +kernel
theorem dX4_rightHill_33 : decode cX4_rightHill 33 = .ok (.iload 4, 2) := by decide +kernel
theorem dX4_rightHill_35 : decode cX4_rightHill 35 = .ok (.iaload, 1) := by decide +kernel
theorem dX4_rightHill_36 : decode cX4_rightHill 36 = .ok (.istore_n 3, 1) := by decide +kernel
theorem dX4_rightHill_37 : decode cX4_rightHill 37 = .ok (.iinc 4 1, 3) := by decide +kernel
theorem dX4_rightHill_40 : decode cX4_rightHill 40 = .ok (.goto (-28), 3) := by decide +kernel
theorem dX4_rightHill_43 : decode cX4_rightHill 43 = .ok (.iload_n 3, 1) := by decide +kernel
theorem dX4_rightHill_44 : decode cX4_rightHill 44 = .ok (.ireturn, 1) := by decide +kernel
theorem dX4_insert_0 : decode cX4_insert 0 = .ok (.iload_n 1, 1) := by decide +kernel
theorem dX4_insert_1 : decode cX4_insert 1 = .ok (.iconst 1, 1) := by decide +kernel
theorem dX4_insert_2 : decode cX4_insert 2 = .ok (.isub, 1) := by decide +kernel
theorem dX4_insert_3 : decode cX4_insert 3 = .ok (.istore_n 2, 1) := by decide +kernel
theorem dX4_insert_4 : decode cX4_insert 4 = .ok (.iload_n 2, 1) := by decide +kernel
theorem dX4_insert_5 : decode cX4_insert 5 = .ok (.ifCond .le 45, 3) := by decide +kernel
theorem dX4_insert_8 : decode cX4_insert 8 = .ok (.aload_n 0, 1) := by decide +kernel
theorem dX4_insert_9 : decode cX4_insert 9 = .ok (.getfield 15, 3) := by decide +kernel
theorem dX4_insert_12 : decode cX4_insert 12 = .ok (.aload_n 0, 1) := by decide +kernel
theorem dX4_insert_13 : decode cX4_insert 13 = .ok (.getfield 18, 3) := by decide +kernel
theorem dX4_insert_16 : decode cX4_insert 16 = .ok (.iload_n 2, 1) := by decide +kernel
theorem dX4_insert_17 : decode cX4_insert 17 = .ok (.iconst 1, 1) := by decide +kernel
theorem dX4_insert_18 : decode cX4_insert 18 = .ok (.isub, 1) := by decide +kernel
theorem dX4_insert_19 : decode cX4_insert 19 = .ok (.iaload, 1) := by decide +kernel
theorem dX4_insert_20 : decode cX4_insert 20 = .ok (.iaload, 1) := by decide +kernel
theorem dX4_insert_21 : decode cX4_insert 21 = .ok (.aload_n 0, 1) := by decide +kernel
theorem dX4_insert_22 : decode cX4_insert 22 = .ok (.getfield 15, 3) := by decide +kernel
theorem dX4_insert_25 : decode cX4_insert 25 = .ok (.iload_n 1, 1) := by decide +kernel
theorem dX4_insert_26 : decode cX4_insert 26 = .ok (.iaload, 1) := by decide +kernel
theorem dX4_insert_27 : decode cX4_insert 27 = .ok (.if_icmp .ge 23, 3) := by decide +kernel
theorem dX4_insert_30 : decode cX4_insert 30 = .ok (.aload_n 0, 1) := by decide +kernel
theorem dX4_insert_31 : decode cX4_insert 31 = .ok (.getfield 18, 3) := by decide +kernel
theorem dX4_insert_34 : decode cX4_insert 34 = .ok (.iload_n 2, 1) := by decide +kernel
theorem dX4_insert_35 : decode cX4_insert 35 = .ok (.aload_n 0, 1) := by decide +kernel
theorem dX4_insert_36 : decode cX4_insert 36 = .ok (.getfield 18, 3) := by decide +kernel
theorem dX4_insert_39 : decode cX4_insert 39 = .ok (.iload_n 2, 1) := by decide +kernel
theorem dX4_insert_40 : decode cX4_insert 40 = .ok (.iconst 1, 1) := by decide +kernel
theorem dX4_insert_41 : decode cX4_insert 41 = .ok (.isub, 1) := by decide +kernel
theorem dX4_insert_42 : decode cX4_insert 42 = .ok (.iaload, 1) := by decide +kernel
theorem dX4_insert_43 : decode cX4_insert 43 = .ok (.iastore, 1) := by decide +kernel
theorem dX4_insert_44 : decode cX4_insert 44 = .ok (.iinc 2 (-1), 3) := by decide +kernel
theorem dX4_insert_47 : decode cX4_insert 47 = .ok (.goto (-43), 3) := by decide +kernel
theorem dX4_insert_50 : decode cX4_insert 50 = .ok (.aload_n 0, 1) := by decide +kernel
theorem dX4_insert_51 : decode cX4_insert 51 = .ok (.getfield 18, 3) := by decide +kernel
theorem dX4_insert_54 : decode cX4_insert 54 = .ok (.iload_n 2, 1) := by decide +kernel
theorem dX4_insert_55 : decode cX4_insert 55 = .ok (.iload_n 1, 1) := by decide +kernel
theorem dX4_insert_56 : decode cX4_insert 56 = .ok (.iastore, 1) := by decide +kernel
theorem dX4_insert_57 : decode cX4_insert 57 = .ok (.return_, 1) := by decide +kernel
theorem dX5_init_0 : decode cX5_init 0 = .ok (.aload_n 0, 1) := by decide +kernel
theorem dX5_init_1 : decode cX5_init 1 = .ok (.invokespecial 3, 3) := by decide +kernel
theorem dX5_init_4 : decode cX5_init 4 = .ok (.aload_n 0, 1) := by decide +kernel
theorem dX5_init_5 : decode cX5_init 5 = .ok (.bipush 9, 2) := by decide +kernel
theorem dX5_init_7 : decode cX5_init 7 = .ok (.bipush 13, 2) := by decide +kernel
theorem dX5_init_9 : decode cX5_init 9 = .ok (.multianewarray 9 2, 4) := by decide +kernel
theorem dX5_init_13 : decode cX5_init 13 = .ok (.putfield 11, 3) := by decide +kernel
theorem dX5_init_16 : decode cX5_init 16 = .ok (.aload_n 0, 1) := by decide +kernel
theorem dX5_init_17 : decode cX5_init 17 = .ok (.bipush 9, 2) := by decide +kernel
theorem dX5_init_19 : decode cX5_init 19 = .ok (.bipush 13, 2) := by decide +kernel
theorem dX5_init_21 : decode cX5_init 21 = .ok (.multianewarray 9 2, 4) := by decide +kernel
theorem dX5_init_25 : decode cX5_init 25 = .ok (.putfield 16, 3) := by decide +kernel
theorem dX5_init_28 : decode cX5_init 28 = .ok (.return_, 1) := by decide +kernel
theorem dX5_fill_0 : decode cX5_fill 0 = .ok (.iconst 1, 1) := by decide +kernel
theorem dX5_fill_1 : decode cX5_fill 1 = .ok (.istore_n 3, 1) := by decide +kernel
theorem dX5_fill_2 : decode cX5_fill 2 = .ok (.iload_n 3, 1) := by decide +kernel
theorem dX5_fill_3 : decode cX5_fill 3 = .ok (.iload_n 2, 1) := by decide +kernel
theorem dX5_fill_4 : decode cX5_fill 4 = .ok (.if_icmp .gt 31, 3) := by decide +kernel
theorem dX5_fill_7 : decode cX5_fill 7 = .ok (.aload_n 0, 1) := by decide +kernel
theorem dX5_fill_8 : decode cX5_fill 8 = .ok (.getfield 11, 3) := by decide +kernel
theorem dX5_fill_11 : decode cX5_fill 11 = .ok (.iconst 1, 1) := by decide +kernel
theorem dX5_fill_12 : decode cX5_fill 12 = .ok (.aaload, 1) := by decide +kernel
theorem dX5_fill_13 : decode cX5_fill 13 = .ok (.iload_n 3, 1) := by decide +kernel
theorem dX5_fill_14 : decode cX5_fill 14 = .ok (.aload_n 1, 1) := by decide +kernel
theorem dX5_fill_15 : decode cX5_fill 15 = .ok (.iconst 0, 1) := by decide +kernel
theorem dX5_fill_16 : decode cX5_fill 16 = .ok (.aaload, 1) := by decide +kernel
theorem dX5_fill_17 : decode cX5_fill 17 = .ok (.iload_n 3, 1) := by decide +kernel
theorem dX5_fill_18 : decode cX5_fill 18 = .ok (.iaload, 1) := by decide +kernel
theorem dX5_fill_19 : decode cX5_fill 19 = .ok (.iastore, 1) := by decide +kernel
theorem dX5_fill_20 : decode cX5_fill 20 = .ok (.aload_n 0, 1) := by decide +kernel
theorem dX5_fill_21 : decode cX5_fill 21 = .ok (.getfield 16, 3) := by decide +kernel
theorem dX5_fill_24 : decode cX5_fill 24 = .ok (.iconst 1, 1) := by decide +kernel
theorem dX5_fill_25 : decode cX5_fill 25 = .ok (.aaload, 1) := by decide +kernel
theorem dX5_fill_26 : decode cX5_fill 26 = .ok (.iload_n 3, 1) := by decide +kernel
theorem dX5_fill_27 : decode cX5_fill 27 = .ok (.iconst 0, 1) := by decide +kernel
theorem dX5_fill_28 : decode cX5_fill 28 = .ok (.iastore, 1) := by decide +kernel
theorem dX5_fill_29 : decode cX5_fill 29 = .ok (.iinc 3 1, 3) := by decide +kernel
theorem dX5_fill_32 : decode cX5_fill 32 = .ok (.goto (-30), 3) := by decide +kernel
theorem dX5_fill_35 : decode cX5_fill 35 = .ok (.iconst 2, 1) := by decide +kernel
theorem dX5_fill_36 : decode cX5_fill 36 = .ok (.istore_n 3, 1) := by decide +kernel
theorem dX5_fill_37 : decode cX5_fill 37 = .ok (.iload_n 3, 1) := by decide +kernel
theorem dX5_fill_38 : decode cX5_fill 38 = .ok (.bipush 8, 2) := by decide +kernel
theorem dX5_fill_40 : decode cX5_fill 40 = .ok (.if_icmp .gt 32, 3) := by decide +kernel
theorem dX5_fill_43 : decode cX5_fill 43 = .ok (.iload_n 3, 1) := by decide +kernel
theorem dX5_fill_44 : decode cX5_fill 44 = .ok (.istore 4, 2) := by decide +kernel
theorem dX5_fill_46 : decode cX5_fill 46 = .ok (.iload 4, 2) := by decide +kernel
theorem dX5_fill_48 : decode cX5_fill 48 = .ok (.iload_n 2, 1) := by decide +kernel
theorem dX5_fill_49 : decode cX5_fill 49 = .ok (.if_icmp .gt 17, 3) := by decide +kernel
theorem dX5_fill_52 : decode cX5_fill 52 = .ok (.aload_n 0, 1) := by decide +kernel
theorem dX5_fill_53 : decode cX5_fill 53 = .ok (.aload_n 1, 1) := by decide +kernel
theorem dX5_fill_54 : decode cX5_fill 54 = .ok (.iload_n 3, 1) := by decide +kernel
theorem dX5_fill_55 : decode cX5_fill 55 = .ok (.iload 4, 2) := by decide +kernel
theorem dX5_fill_57 : decode cX5_fill 57 = .ok (.invokevirtual 19, 3) := by decide +kernel
theorem dX5_fill_60 : decode cX5_fill 60 = .ok (.iinc 4 1, 3) := by decide +kernel
theorem dX5_fill_63 : decode cX5_fill 63 = .ok (.goto (-17), 3) := by decide +kernel
theorem dX5_fill_66 : decode cX5_fill 66 = .ok (.iinc 3 1, 3) := by decide +kernel
theorem dX5_fill_69 : decode cX5_fill 69 = .ok (.goto (-32), 3) := by decide +kernel
theorem dX5_fill_72 : decode cX5_fill 72 = .ok (.return_, 1) := by decide +kernel
theorem dX5_chooseLastBlock_0 : decode cX5_chooseLastBlock 0 = .ok (.aload_n 0, 1) := by decide +kernel
theorem dX5_chooseLastBlock_1 : decode cX5_chooseLastBlock 1 = .ok (.getfield 11, 3) := by decide +kernel
theorem dX5_chooseLastBlock_4 : decode cX5_chooseLastBlock 4 = .ok (.iload_n 2, 1) := by decide +kernel
theorem dX5_chooseLastBlock_5 : decode cX5_chooseLastBlock 5 = .ok (.iconst 1, 1) := by decide +kernel
theorem dX5_chooseLastBlock_6 : decode cX5_chooseLastBlock 6 = .ok (.isub, 1) := by decide +kernel
theorem dX5_chooseLastBlock_7 : decode cX5_chooseLastBlock 7 = .ok (.aaload, 1) := by decide +kernel
theorem dX5_chooseLastBlock_8 : decode cX5_chooseLastBlock 8 = .ok (.iload_n 2, 1) := by decide +kernel
theorem dX5_chooseLastBlock_9 : decode cX5_chooseLastBlock 9 = .ok (.iconst 1, 1) := by decide +kernel
theorem dX5_chooseLastBlock_10 : decode cX5_chooseLastBlock 10 = .ok (.isub, 1) := by decide +kernel
theorem dX5_chooseLastBlock_11 : decode cX5_chooseLastBlock 11 = .ok (.iaload, 1) := by decide +kernel
theorem dX5_chooseLastBlock_12 : decode cX5_chooseLastBlock 12 = .ok (.aload_n 1, 1) := by decide +kernel
theorem dX5_chooseLastBlock_13 : decode cX5_chooseLastBlock 13 = .ok (.iload_n 2, 1) := by decide +kernel
theorem dX5_chooseLastBlock_14 : decode cX5_chooseLastBlock 14 = .ok (.iconst 1, 1) := by decide +kernel
theorem dX5_chooseLastBlock_15 : decode cX5_chooseLastBlock 15 = .ok (.isub, 1) := by decide +kernel
theorem dX5_chooseLastBlock_16 : decode cX5_chooseLastBlock 16 = .ok (.aaload, 1) := by decide +kernel
theorem dX5_chooseLastBlock_17 : decode cX5_chooseLastBlock 17 = .ok (.iload_n 3, 1) := by decide +kernel
theorem dX5_chooseLastBlock_18 : decode cX5_chooseLastBlock 18 = .ok (.iaload, 1) := by decide +kernel
theorem dX5_chooseLastBlock_19 : decode cX5_chooseLastBlock 19 = .ok (.iadd, 1) := by decide +kernel
theorem dX5_chooseLastBlock_20 : decode cX5_chooseLastBlock 20 = .ok (.istore 4, 2) := by decide +kernel
theorem dX5_chooseLastBlock_22 : decode cX5_chooseLastBlock 22 = .ok (.iload_n 2, 1) := by decide +kernel
theorem dX5_chooseLastBlock_23 : decode cX5_chooseLastBlock 23 = .ok (.iconst 1, 1) := by decide +kernel
theorem dX5_chooseLastBlock_24 : decode cX5_chooseLastBlock 24 = .ok (.isub, 1) := by decide +kernel
theorem dX5_chooseLastBlock_25 : decode cX5_chooseLastBlock 25 = .ok (.istore 5, 2) := by decide +kernel
theorem dX5_chooseLastBlock_27 : decode cX5_chooseLastBlock 27 = .ok (.iload_n 2, 1) := by decide +kernel
theorem dX5_chooseLastBlock_28 : decode cX5_chooseLastBlock 28 = .ok (.istore 6, 2) := by decide +kernel
theorem dX5_chooseLastBlock_30 : decode cX5_chooseLastBlock 30 = .ok (.iload 6, 2) := by decide +kernel
theorem dX5_chooseLastBlock_32 : decode cX5_chooseLastBlock 32 = .ok (.iload_n 3, 1) := by decide +kernel
theorem dX5_chooseLastBlock_33 : decode cX5_chooseLastBlock 33 = .ok (.if_icmp .ge 44, 3) := by decide +kernel
theorem dX5_chooseLastBlock_36 : decode cX5_chooseLastBlock 36 = .ok (.aload_n 0, 1) := by decide +kernel
theorem dX5_chooseLastBlock_37 : decode cX5_chooseLastBlock 37 = .ok (.getfield 11, 3) := by decide +kernel
theorem dX5_chooseLastBlock_40 : decode cX5_chooseLastBlock 40 = .ok (.iload_n 2, 1) := by decide +kernel
theorem dX5_chooseLastBlock_41 : decode cX5_chooseLastBlock 41 = .ok (.iconst 1, 1) := by decide +kernel
theorem dX5_chooseLastBlock_42 : decode cX5_chooseLastBlock 42 = .ok (.isub, 1) := by decide +kernel
theorem dX5_chooseLastBlock_43 : decode cX5_chooseLastBlock 43 = .ok (.aaload, 1) := by decide +kernel
theorem dX5_chooseLastBlock_44 : decode cX5_chooseLastBlock 44 = .ok (.iload 6, 2) := by decide +kernel
theorem dX5_chooseLastBlock_46 : decode cX5_chooseLastBlock 46 = .ok (.iaload, 1) := by decide +kernel
theorem dX5_chooseLastBlock_47 : decode cX5_chooseLastBlock 47 = .ok (.aload_n 1, 1) := by decide +kernel
theorem dX5_chooseLastBlock_48 : decode cX5_chooseLastBlock 48 = .ok (.iload 6, 2) := by decide +kernel
theorem dX5_chooseLastBlock_50 : decode cX5_chooseLastBlock 50 = .ok (.aaload, 1) := by decide +kernel
theorem dX5_chooseLastBlock_51 : decode cX5_chooseLastBlock 51 = .ok (.iload_n 3, 1) := by decide +kernel
theorem dX5_chooseLastBlock_52 : decode cX5_chooseLastBlock 52 = .ok (.iaload, 1) := by decide +kernel
theorem dX5_chooseLastBlock_53 : decode cX5_chooseLastBlock 53 = .ok (.iadd, 1) := by decide +kernel
theorem dX5_chooseLastBlock_54 : decode cX5_chooseLastBlock 54 = .ok (.istore 7, 2) := by decide +kernel
theorem dX5_chooseLastBlock_56 : decode cX5_chooseLastBlock 56 = .ok (.iload 7, 2) := by decide +kernel
theorem dX5_chooseLastBlock_58 : decode cX5_chooseLastBlock 58 = .ok (.iload 4, 2) := by decide +kernel
theorem dX5_chooseLastBlock_60 : decode cX5_chooseLastBlock 60 = .ok (.if_icmp .ge 11, 3) := by decide +kernel
theorem dX5_chooseLastBlock_63 : decode cX5_chooseLastBlock 63 = .ok (.iload 7, 2) := by decide +kernel
theorem dX5_chooseLastBlock_65 : decode cX5_chooseLastBlock 65 = .ok (.istore 4, 2) := by decide +kernel
theorem dX5_chooseLastBlock_67 : decode cX5_chooseLastBlock 67 = .ok (.iload 6, 2) := by decide +kernel
theorem dX5_chooseLastBlock_69 : decode cX5_chooseLastBlock 69 = .ok (.istore 5, 2) := by decide +kernel
theorem dX5_chooseLastBlock_71 : decode cX5_chooseLastBlock 71 = .ok (.iinc 6 1, 3) := by decide +kernel
theorem dX5_chooseLastBlock_74 : decode cX5_chooseLastBlock 74 = .ok (.goto (-44), 3) := by decide +kernel
theorem dX5_chooseLastBlock_77 : decode cX5_chooseLastBlock 77 = .ok (.aload_n 0, 1) := by decide +kernel
theorem dX5_chooseLastBlock_78 : decode cX5_chooseLastBlock 78 = .ok (.getfield 11, 3) := by decide +kernel
theorem dX5_chooseLastBlock_81 : decode cX5_chooseLastBlock 81 = .ok (.iload_n 2, 1) := by decide +kernel
theorem dX5_chooseLastBlock_82 : decode cX5_chooseLastBlock 82 = .ok (.aaload, 1) := by decide +kernel
theorem dX5_chooseLastBlock_83 : decode cX5_chooseLastBlock 83 = .ok (.iload_n 3, 1) := by decide +kernel
theorem dX5_chooseLastBlock_84 : decode cX5_chooseLastBlock 84 = .ok (.iload 4, 2) := by decide +kernel
theorem dX5_chooseLastBlock_86 : decode cX5_chooseLastBlock 86 = .ok (.iastore, 1) := by decide +kernel
theorem dX5_chooseLastBlock_87 : decode cX5_chooseLastBlock 87 = .ok (.aload_n 0, 1) := by decide +kernel
theorem dX5_chooseLastBlock_88 : decode cX5_chooseLastBlock 88 = .ok (.getfield 16, 3) := by decide +kernel
theorem dX5_chooseLastBlock_91 : decode cX5_chooseLastBlock 91 = .ok (.iload_n 2, 1) := by decide +kernel
theorem dX5_chooseLastBlock_92 : decode cX5_chooseLastBlock 92 = .ok (.aaload, 1) := by decide +kernel
theorem dX5_chooseLastBlock_93 : decode cX5_chooseLastBlock 93 = .ok (.iload_n 3, 1) := by decide +kernel
theorem dX5_chooseLastBlock_94 : decode cX5_chooseLastBlock 94 = .ok (.iload 5, 2) := by decide +kernel
theorem dX5_chooseLastBlock_96 : decode cX5_chooseLastBlock 96 = .ok (.iastore, 1) := by decide +kernel
theorem dX5_chooseLastBlock_97 : decode cX5_chooseLastBlock 97 = .ok (.return_, 1) := by decide +kernel
theorem dX5_totalOf_0 : decode cX5_totalOf 0 = .ok (.aload_n 0, 1) := by decide +kernel
theorem dX5_totalOf_1 : decode cX5_totalOf 1 = .ok (.getfield 11, 3) := by decide +kernel
theorem dX5_totalOf_4 : decode cX5_totalOf 4 = .ok (.iload_n 1, 1) := by decide +kernel
theorem dX5_totalOf_5 : decode cX5_totalOf 5 = .ok (.aaload, 1) := by decide +kernel
theorem dX5_totalOf_6 : decode cX5_totalOf 6 = .ok (.iload_n 2, 1) := by decide +kernel
theorem dX5_totalOf_7 : decode cX5_totalOf 7 = .ok (.iaload, 1) := by decide +kernel
theorem dX5_totalOf_8 : decode cX5_totalOf 8 = .ok (.ireturn, 1) := by decide +kernel
theorem dX5_beginOf_0 : decode cX5_beginOf 0 = .ok (.iload_n 3, 1) := by decide +kernel
theorem dX5_beginOf_1 : decode cX5_beginOf 1 = .ok (.istore 4, 2) := by decide +kernel
theorem dX5_beginOf_3 : decode cX5_beginOf 3 = .ok (.iload_n 1, 1) := by decide +kernel
theorem dX5_beginOf_4 : decode cX5_beginOf 4 = .ok (.istore 5, 2) := by decide +kernel
theorem dX5_beginOf_6 : decode cX5_beginOf 6 = .ok (.iload 5, 2) := by decide +kernel
theorem dX5_beginOf_8 : decode cX5_beginOf 8 = .ok (.iload_n 2, 1) := by decide +kernel
theorem dX5_beginOf_9 : decode cX5_beginOf 9 = .ok (.if_icmp .le 21, 3) := by decide +kernel
theorem dX5_beginOf_12 : decode cX5_beginOf 12 = .ok (.aload_n 0, 1) := by decide +kernel
theorem dX5_beginOf_13 : decode cX5_beginOf 13 = .ok (.getfield 16, 3) := by decide +kernel
theorem dX5_beginOf_16 : decode cX5_beginOf 16 = .ok (.iload 5, 2) := by decide +kernel
theorem dX5_beginOf_18 : decode cX5_beginOf 18 = .ok (.aaload, 1) := by decide +kernel
theorem dX5_beginOf_19 : decode cX5_beginOf 19 = .ok (.iload 4, 2) := by decide +kernel
theorem dX5_beginOf_21 : decode cX5_beginOf 21 = .ok (.iaload, 1) := by decide +kernel
theorem dX5_beginOf_22 : decode cX5_beginOf 22 = .ok (.istore 4, 2) := by decide +kernel
theorem dX5_beginOf_24 : decode cX5_beginOf 24 = .ok (.iinc 5 (-1), 3) := by decide +kernel
theorem dX5_beginOf_27 : decode cX5_beginOf 27 = .ok (.goto (-21), 3) := by decide +kernel
theorem dX5_beginOf_30 : decode cX5_beginOf 30 = .ok (.iload 4, 2) := by decide +kernel
theorem dX5_beginOf_32 : decode cX5_beginOf 32 = .ok (.ireturn, 1) := by decide +kernel
theorem dX5_seamBits_0 : decode cX5_seamBits 0 = .ok (.iconst 0, 1) := by decide +kernel
theorem dX5_seamBits_1 : decode cX5_seamBits 1 = .ok (.istore_n 3, 1) := by decide +kernel
theorem dX5_seamBits_2 : decode cX5_seamBits 2 = .ok (.iconst 1, 1) := by decide +kernel
theorem dX5_seamBits_3 : decode cX5_seamBits 3 = .ok (.istore 4, 2) := by decide +kernel
theorem dX5_seamBits_5 : decode cX5_seamBits 5 = .ok (.iload 4, 2) := by decide +kernel
theorem dX5_seamBits_7 : decode cX5_seamBits 7 = .ok (.iload_n 1, 1) := by decide +kernel
theorem dX5_seamBits_8 : decode cX5_seamBits 8 = .ok (.if_icmp .ge 22, 3) := by decide +kernel
theorem dX5_seamBits_11 : decode cX5_seamBits 11 = .ok (.iload_n 3, 1) := by decide +kernel
theorem dX5_seamBits_12 : decode cX5_seamBits 12 = .ok (.iconst 1, 1) := by decide +kernel
theorem dX5_seamBits_13 : decode cX5_seamBits 13 = .ok (.aload_n 0, 1) := by decide +kernel
theorem dX5_seamBits_14 : decode cX5_seamBits 14 = .ok (.iload_n 1, 1) := by decide +kernel
theorem dX5_seamBits_15 : decode cX5_seamBits 15 = .ok (.iload 4, 2) := by decide +kernel
theorem dX5_seamBits_17 : decode cX5_seamBits 17 = .ok (.iload_n 2, 1) := by decide +kernel
theorem dX5_seamBits_18 : decode cX5_seamBits 18 = .ok (.invokevirtual 23, 3) := by decide +kernel
theorem dX5_seamBits_21 : decode cX5_seamBits 21 = .ok (.ishl, 1) := by decide +kernel
theorem dX5_seamBits_22 : decode cX5_seamBits 22 = .ok (.ior, 1) := by decide +kernel
theorem dX5_seamBits_23 : decode cX5_seamBits 23 = .ok (.istore_n 3, 1) := by decide +kernel
theorem dX5_seamBits_24 : decode cX5_seamBits 24 = .ok (.iinc 4 1, 3) := by decide +kernel
theorem dX5_seamBits_27 : decode cX5_seamBits 27 = .ok (.goto (-22), 3) := by decide +kernel
theorem dX5_seamBits_30 : decode cX5_seamBits 30 = .ok (.iload_n 3, 1) := by decide +kernel
theorem dX5_seamBits_31 : decode cX5_seamBits 31 = .ok (.ireturn, 1) := by decide +kernel
theorem dX5_isBent_0 : decode cX5_isBent 0 = .ok (.aload_n 0, 1) := by decide +kernel
theorem dX5_isBent_1 : decode cX5_isBent 1 = .ok (.getfield 11, 3) := by decide +kernel
theorem dX5_isBent_4 : decode cX5_isBent 4 = .ok (.iload_n 1, 1) := by decide +kernel
theorem dX5_isBent_5 : decode cX5_isBent 5 = .ok (.iconst 1, 1) := by decide +kernel
theorem dX5_isBent_6 : decode cX5_isBent 6 = .ok (.isub, 1) := by decide +kernel
theorem dX5_isBent_7 : decode cX5_isBent 7 = .ok (.aaload, 1) := by decide +kernel
theorem dX5_isBent_8 : decode cX5_isBent 8 = .ok (.iload_n 2, 1) := by decide +kernel
theorem dX5_isBent_9 : decode cX5_isBent 9 = .ok (.iaload, 1) := by decide +kernel
theorem dX5_isBent_10 : decode cX5_isBent 10 = .ok (.aload_n 0, 1) := by decide +kernel
theorem dX5_isBent_11 : decode cX5_isBent 11 = .ok (.getfield 11, 3) := by decide +kernel
theorem dX5_isBent_14 : decode cX5_isBent 14 = .ok (.iload_n 1, 1) := by decide +kernel
theorem dX5_isBent_15 : decode cX5_isBent 15 = .ok (.iconst 1, 1) := by decide +kernel
theorem dX5_isBent_16 : decode cX5_isBent 16 = .ok (.iadd, 1) := by decide +kernel
theorem dX5_isBent_17 : decode cX5_isBent 17 = .ok (.aaload, 1) := by decide +kernel
theorem dX5_isBent_18 : decode cX5_isBent 18 = .ok (.iload_n 2, 1) := by decide +kernel
theorem dX5_isBent_19 : decode cX5_isBent 19 = .ok (.iaload, 1) := by decide +kernel
theorem dX5_isBent_20 : decode cX5_isBent 20 = .ok (.iadd, 1) := by decide +kernel
theorem dX5_isBent_21 : decode cX5_isBent 21 = .ok (.iconst 2, 1) := by decide +kernel
theorem dX5_isBent_22 : decode cX5_isBent 22 = .ok (.aload_n 0, 1) := by decide +kernel
theorem dX5_isBent_23 : decode cX5_isBent 23 = .ok (.getfield 11, 3) := by decide +kernel
theorem dX5_isBent_26 : decode cX5_isBent 26 = .ok (.iload_n 1, 1) := by decide +kernel
theorem dX5_isBent_27 : decode cX5_isBent 27 = .ok (.aaload, 1) := by decide +kernel
theorem dX5_isBent_28 : decode cX5_isBent 28 = .ok (.iload_n 2, 1) := by decide +kernel
theorem dX5_isBent_29 : decode cX5_isBent 29 = .ok (.iaload, 1) := by decide +kernel
theorem dX5_isBent_30 : decode cX5_isBent 30 = .ok (.imul, 1) := by decide +kernel
theorem dX5_isBent_31 : decode cX5_isBent 31 = .ok (.if_icmp .lt 7, 3) := by decide +kernel
theorem dX5_isBent_34 : decode cX5_isBent 34 = .ok (.iconst 1, 1) := by decide +kernel
theorem dX5_isBent_35 : decode cX5_isBent 35 = .ok (.goto 4, 3) := by decide +kernel
theorem dX5_isBent_38 : decode cX5_isBent 38 = .ok (.iconst 0, 1) := by decide +kernel
theorem dX5_isBent_39 : decode cX5_isBent 39 = .ok (.ireturn, 1) := by decide +kernel
theorem dX6_init_0 : decode cX6_init 0 = .ok (.aload_n 0, 1) := by decide +kernel
theorem dX6_init_1 : decode cX6_init 1 = .ok (.invokespecial 3, 3) := by decide +kernel
theorem dX6_init_4 : decode cX6_init 4 = .ok (.aload_n 0, 1) := by decide +kernel
theorem dX6_init_5 : decode cX6_init 5 = .ok (.iconst 0, 1) := by decide +kernel
theorem dX6_init_6 : decode cX6_init 6 = .ok (.putfield 9, 3) := by decide +kernel
theorem dX6_init_9 : decode cX6_init 9 = .ok (.aload_n 0, 1) := by decide +kernel
theorem dX6_init_10 : decode cX6_init 10 = .ok (.iconst 0, 1) := by decide +kernel
theorem dX6_init_11 : decode cX6_init 11 = .ok (.putfield 15, 3) := by decide +kernel
theorem dX6_init_14 : decode cX6_init 14 = .ok (.aload_n 0, 1) := by decide +kernel
theorem dX6_init_15 : decode cX6_init 15 = .ok (.iconst 0, 1) := by decide +kernel
theorem dX6_init_16 : decode cX6_init 16 = .ok (.putfield 18, 3) := by decide +kernel
theorem dX6_init_19 : decode cX6_init 19 = .ok (.aload_n 0, 1) := by decide +kernel
theorem dX6_init_20 : decode cX6_init 20 = .ok (.bipush 12, 2) := by decide +kernel
theorem dX6_init_22 : decode cX6_init 22 = .ok (.newarray .int, 2) := by decide +kernel
theorem dX6_init_24 : decode cX6_init 24 = .ok (.putfield 21, 3) := by decide +kernel
theorem dX6_init_27 : decode cX6_init 27 = .ok (.aload_n 0, 1) := by decide +kernel
theorem dX6_init_28 : decode cX6_init 28 = .ok (.bipush 12, 2) := by decide +kernel
theorem dX6_init_30 : decode cX6_init 30 = .ok (.newarray .int, 2) := by decide +kernel
theorem dX6_init_32 : decode cX6_init 32 = .ok (.putfield 25, 3) := by decide +kernel
theorem dX6_init_35 : decode cX6_init 35 = .ok (.aload_n 0, 1) := by decide +kernel
theorem dX6_init_36 : decode cX6_init 36 = .ok (.bipush 12, 2) := by decide +kernel
theorem dX6_init_38 : decode cX6_init 38 = .ok (.bipush 9, 2) := by decide +kernel
theorem dX6_init_40 : decode cX6_init 40 = .ok (.multianewarray 28 2, 4) := by decide +kernel
theorem dX6_init_44 : decode cX6_init 44 = .ok (.putfield 30, 3) := by decide +kernel
theorem dX6_init_47 : decode cX6_init 47 = .ok (.aload_n 0, 1) := by decide +kernel
theorem dX6_init_48 : decode cX6_init 48 = .ok (.bipush 12, 2) := by decide +kernel
theorem dX6_init_50 : decode cX6_init 50 = .ok (.bipush 108, 2) := by decide +kernel
theorem dX6_init_52 : decode cX6_init 52 = .ok (.multianewarray 28 2, 4) := by decide +kernel
theorem dX6_init_56 : decode cX6_init 56 = .ok (.putfield 33, 3) := by decide +kernel
theorem dX6_init_59 : decode cX6_init 59 = .ok (.aload_n 0, 1) := by decide +kernel
theorem dX6_init_60 : decode cX6_init 60 = .ok (.bipush 108, 2) := by decide +kernel
theorem dX6_init_62 : decode cX6_init 62 = .ok (.newarray .int, 2) := by decide +kernel
theorem dX6_init_64 : decode cX6_init 64 = .ok (.putfield 36, 3) := by decide +kernel
theorem dX6_init_67 : decode cX6_init 67 = .ok (.aload_n 0, 1) := by decide +kernel
theorem dX6_init_68 : decode cX6_init 68 = .ok (.bipush 108, 2) := by decide +kernel
theorem dX6_init_70 : decode cX6_init 70 = .ok (.newarray .int, 2) := by decide +kernel
theorem dX6_init_72 : decode cX6_init 72 = .ok (.putfield 39, 3) := by decide +kernel
theorem dX6_init_75 : decode cX6_init 75 = .ok (.aload_n 0, 1) := by decide +kernel
theorem dX6_init_76 : decode cX6_init 76 = .ok (.bipush 108, 2) := by decide +kernel
theorem dX6_init_78 : decode cX6_init 78 = .ok (.newarray .int, 2) := by decide +kernel
theorem dX6_init_80 : decode cX6_init 80 = .ok (.putfield 42, 3) := by decide +kernel
theorem dX6_init_83 : decode cX6_init 83 = .ok (.aload_n 0, 1) := by decide +kernel
theorem dX6_init_84 : decode cX6_init 84 = .ok (.bipush 108, 2) := by decide +kernel
theorem dX6_init_86 : decode cX6_init 86 = .ok (.newarray .int, 2) := by decide +kernel
theorem dX6_init_88 : decode cX6_init 88 = .ok (.putfield 45, 3) := by decide +kernel
theorem dX6_init_91 : decode cX6_init 91 = .ok (.aload_n 0, 1) := by decide +kernel
theorem dX6_init_92 : decode cX6_init 92 = .ok (.bipush 108, 2) := by decide +kernel
theorem dX6_init_94 : decode cX6_init 94 = .ok (.newarray .long, 2) := by decide +kernel
theorem dX6_init_96 : decode cX6_init 96 = .ok (.putfield 48, 3) := by decide +kernel
theorem dX6_init_99 : decode cX6_init 99 = .ok (.return_, 1) := by decide +kernel
theorem dX6_fill_0 : decode cX6_fill 0 = .ok (.aload_n 0, 1) := by decide +kernel
theorem dX6_fill_1 : decode cX6_fill 1 = .ok (.iconst 0, 1) := by decide +kernel
theorem dX6_fill_2 : decode cX6_fill 2 = .ok (.putfield 9, 3) := by decide +kernel
theorem dX6_fill_5 : decode cX6_fill 5 = .ok (.aload_n 0, 1) := by decide +kernel
theorem dX6_fill_6 : decode cX6_fill 6 = .ok (.iconst 0, 1) := by decide +kernel
theorem dX6_fill_7 : decode cX6_fill 7 = .ok (.putfield 15, 3) := by decide +kernel
theorem dX6_fill_10 : decode cX6_fill 10 = .ok (.aload_n 0, 1) := by decide +kernel
theorem dX6_fill_11 : decode cX6_fill 11 = .ok (.iconst 0, 1) := by decide +kernel
theorem dX6_fill_12 : decode cX6_fill 12 = .ok (.putfield 18, 3) := by decide +kernel
theorem dX6_fill_15 : decode cX6_fill 15 = .ok (.iload_n 2, 1) := by decide +kernel
theorem dX6_fill_16 : decode cX6_fill 16 = .ok (.ifCond .ne 4, 3) := by decide +kernel
theorem dX6_fill_19 : decode cX6_fill 19 = .ok (.return_, 1) := by decide +kernel
theorem dX6_fill_20 : decode cX6_fill 20 = .ok (.iconst 0, 1) := by decide +kernel
theorem dX6_fill_21 : decode cX6_fill 21 = .ok (.istore_n 3, 1) := by decide +kernel
theorem dX6_fill_22 : decode cX6_fill 22 = .ok (.iload_n 3, 1) := by decide +kernel
theorem dX6_fill_23 : decode cX6_fill 23 = .ok (.bipush 12, 2) := by decide +kernel
theorem dX6_fill_25 : decode cX6_fill 25 = .ok (.if_icmp .ge 16, 3) := by decide +kernel
theorem dX6_fill_28 : decode cX6_fill 28 = .ok (.aload_n 0, 1) := by decide +kernel
theorem dX6_fill_29 : decode cX6_fill 29 = .ok (.getfield 25, 3) := by decide +kernel
theorem dX6_fill_32 : decode cX6_fill 32 = .ok (.iload_n 3, 1) := by decide +kernel
theorem dX6_fill_33 : decode cX6_fill 33 = .ok (.iconst 0, 1) := by decide +kernel
theorem dX6_fill_34 : decode cX6_fill 34 = .ok (.iastore, 1) := by decide +kernel
theorem dX6_fill_35 : decode cX6_fill 35 = .ok (.iinc 3 1, 3) := by decide +kernel
theorem dX6_fill_38 : decode cX6_fill 38 = .ok (.goto (-16), 3) := by decide +kernel
theorem dX6_fill_41 : decode cX6_fill 41 = .ok (.lconst 0, 1) := by decide +kernel
theorem dX6_fill_42 : decode cX6_fill 42 = .ok (.lstore_n 3, 1) := by decide +kernel
theorem dX6_fill_43 : decode cX6_fill 43 = .ok (.iconst 0, 1) := by decide +kernel
theorem dX6_fill_44 : decode cX6_fill 44 = .ok (.istore 5, 2) := by decide +kernel
theorem dX6_fill_46 : decode cX6_fill 46 = .ok (.iconst 0, 1) := by decide +kernel
theorem dX6_fill_47 : decode cX6_fill 47 = .ok (.istore 6, 2) := by decide +kernel
theorem dX6_fill_49 : decode cX6_fill 49 = .ok (.iload 6, 2) := by decide +kernel
theorem dX6_fill_51 : decode cX6_fill 51 = .ok (.aload_n 1, 1) := by decide +kernel
theorem dX6_fill_52 : decode cX6_fill 52 = .ok (.getfield 52, 3) := by decide +kernel
theorem dX6_fill_55 : decode cX6_fill 55 = .ok (.if_icmp .ge 82, 3) := by decide +kernel
theorem dX6_fill_58 : decode cX6_fill 58 = .ok (.aload_n 1, 1) := by decide +kernel
theorem dX6_fill_59 : decode cX6_fill 59 = .ok (.getfield 57, 3) := by decide +kernel
theorem dX6_fill_62 : decode cX6_fill 62 = .ok (.iload 6, 2) := by decide +kernel
theorem dX6_fill_64 : decode cX6_fill 64 = .ok (.iaload, 1) := by decide +kernel
theorem dX6_fill_65 : decode cX6_fill 65 = .ok (.istore 7, 2) := by decide +kernel
theorem dX6_fill_67 : decode cX6_fill 67 = .ok (.iload 7, 2) := by decide +kernel
theorem dX6_fill_69 : decode cX6_fill 69 = .ok (.invokestatic 60, 3) := by decide +kernel
theorem dX6_fill_72 : decode cX6_fill 72 = .ok (.ifCond .eq 20, 3) := by decide +kernel
theorem dX6_fill_75 : decode cX6_fill 75 = .ok (.lload_n 3, 1) := by decide +kernel
theorem dX6_fill_76 : decode cX6_fill 76 = .ok (.iconst 5, 1) := by decide +kernel
theorem dX6_fill_77 : decode cX6_fill 77 = .ok (.lshl, 1) := by decide +kernel
theorem dX6_fill_78 : decode cX6_fill 78 = .ok (.iload 7, 2) := by decide +kernel
theorem dX6_fill_80 : decode cX6_fill 80 = .ok (.bipush 96, 2) := by decide +kernel
theorem dX6_fill_82 : decode cX6_fill 82 = .ok (.isub, 1) := by decide +kernel
theorem dX6_fill_83 : decode cX6_fill 83 = .ok (.i2l, 1) := by decide +kernel
theorem dX6_fill_84 : decode cX6_fill 84 = .ok (.lor, 1) := by decide +kernel
theorem dX6_fill_85 : decode cX6_fill 85 = .ok (.lstore_n 3, 1) := by decide +kernel
theorem dX6_fill_86 : decode cX6_fill 86 = .ok (.iinc 5 1, 3) := by decide +kernel
theorem dX6_fill_89 : decode cX6_fill 89 = .ok (.goto 42, 3) := by decide +kernel
theorem dX6_fill_92 : decode cX6_fill 92 = .ok (.iload 5, 2) := by decide +kernel
theorem dX6_fill_94 : decode cX6_fill 94 = .ok (.ifCond .le 15, 3) := by decide +kernel
theorem dX6_fill_97 : decode cX6_fill 97 = .ok (.aload_n 0, 1) := by decide +kernel
theorem dX6_fill_98 : decode cX6_fill 98 = .ok (.lload_n 3, 1) := by decide +kernel
theorem dX6_fill_99 : decode cX6_fill 99 = .ok (.iload 5, 2) := by decide +kernel
theorem dX6_fill_101 : decode cX6_fill 101 = .ok (.iload 6, 2) := by decide +kernel
theorem dX6_fill_103 : decode cX6_fill 103 = .ok (.iload 5, 2) := by decide +kernel
theorem dX6_fill_105 : decode cX6_fill 105 = .ok (.isub, 1) := by decide +kernel
theorem dX6_fill_106 : decode cX6_fill 106 = .ok (.invokevirtual 64, 3) := by decide +kernel
theorem dX6_fill_109 : decode cX6_fill 109 = .ok (.lconst 0, 1) := by decide +kernel
theorem dX6_fill_110 : decode cX6_fill 110 = .ok (.lstore_n 3, 1) := by decide +kernel
theorem dX6_fill_111 : decode cX6_fill 111 = .ok (.iconst 0, 1) := by decide +kernel
theorem dX6_fill_112 : decode cX6_fill 112 = .ok (.istore 5, 2) := by decide +kernel
theorem dX6_fill_114 : decode cX6_fill 114 = .ok (.iload 7, 2) := by decide +kernel
theorem dX6_fill_116 : decode cX6_fill 116 = .ok (.bipush 46, 2) := by decide +kernel
theorem dX6_fill_118 : decode cX6_fill 118 = .ok (.if_icmp .ne 13, 3) := by decide +kernel
theorem dX6_fill_121 : decode cX6_fill 121 = .ok (.aload_n 0, 1) := by decide +kernel
theorem dX6_fill_122 : decode cX6_fill 122 = .ok (.dup, 1) := by decide +kernel
theorem dX6_fill_123 : decode cX6_fill 123 = .ok (.getfield 9, 3) := by decide +kernel
theorem dX6_fill_126 : decode cX6_fill 126 = .ok (.iconst 1, 1) := by decide +kernel
theorem dX6_fill_127 : decode cX6_fill 127 = .ok (.iadd, 1) := by decide +kernel
theorem dX6_fill_128 : decode cX6_fill 128 = .ok (.putfield 9, 3) := by decide +kernel
theorem dX6_fill_131 : decode cX6_fill 131 = .ok (.iinc 6 1, 3) := by decide +kernel
theorem dX6_fill_134 : decode cX6_fill 134 = .ok (.goto (-85), 3) := by decide +kernel
theorem dX6_fill_137 : decode cX6_fill 137 = .ok (.return_, 1) := by decide +kernel
theorem dX6_addWord_0 : decode cX6_addWord 0 = .ok (.aload_n 0, 1) := by decide +kernel
theorem dX6_addWord_1 : decode cX6_addWord 1 = .ok (.getfield 9, 3) := by decide +kernel
theorem dX6_addWord_4 : decode cX6_addWord 4 = .ok (.istore 5, 2) := by decide +kernel
theorem dX6_addWord_6 : decode cX6_addWord 6 = .ok (.iload 5, 2) := by decide +kernel
theorem dX6_addWord_8 : decode cX6_addWord 8 = .ok (.bipush 12, 2) := by decide +kernel
theorem dX6_addWord_10 : decode cX6_addWord 10 = .ok (.if_icmp .ge 24, 3) := by decide +kernel
theorem dX6_addWord_13 : decode cX6_addWord 13 = .ok (.aload_n 0, 1) := by decide +kernel
theorem dX6_addWord_14 : decode cX6_addWord 14 = .ok (.getfield 25, 3) := by decide +kernel
theorem dX6_addWord_17 : decode cX6_addWord 17 = .ok (.iload 5, 2) := by decide +kernel
theorem dX6_addWord_19 : decode cX6_addWord 19 = .ok (.iaload, 1) := by decide +kernel
theorem dX6_addWord_20 : decode cX6_addWord 20 = .ok (.bipush 9, 2) := by decide +kernel
theorem dX6_addWord_22 : decode cX6_addWord 22 = .ok (.if_icmp .ge 12, 3) := by decide +kernel
theorem dX6_addWord_25 : decode cX6_addWord 25 = .ok (.aload_n 0, 1) := by decide +kernel
theorem dX6_addWord_26 : decode cX6_addWord 26 = .ok (.getfield 15, 3) := by decide +kernel
theorem dX6_addWord_29 : decode cX6_addWord 29 = .ok (.bipush 108, 2) := by decide +kernel
theorem dX6_addWord_31 : decode cX6_addWord 31 = .ok (.if_icmp .lt 4, 3) := by decide +kernel
theorem dX6_addWord_34 : decode cX6_addWord 34 = .ok (.return_, 1) := by decide +kernel
theorem dX6_addWord_35 : decode cX6_addWord 35 = .ok (.lload_n 1, 1) := by decide +kernel
theorem dX6_addWord_36 : decode cX6_addWord 36 = .ok (.iload_n 3, 1) := by decide +kernel
theorem dX6_addWord_37 : decode cX6_addWord 37 = .ok (.invokestatic 68, 3) := by decide +kernel
theorem dX6_addWord_40 : decode cX6_addWord 40 = .ok (.istore 6, 2) := by decide +kernel
theorem dX6_addWord_42 : decode cX6_addWord 42 = .ok (.aload_n 0, 1) := by decide +kernel
theorem dX6_addWord_43 : decode cX6_addWord 43 = .ok (.lload_n 1, 1) := by decide +kernel
theorem dX6_addWord_44 : decode cX6_addWord 44 = .ok (.iconst 5, 1) := by decide +kernel
theorem dX6_addWord_45 : decode cX6_addWord 45 = .ok (.iload 6, 2) := by decide +kernel
theorem dX6_addWord_47 : decode cX6_addWord 47 = .ok (.imul, 1) := by decide +kernel
theorem dX6_addWord_48 : decode cX6_addWord 48 = .ok (.lshr, 1) := by decide +kernel
theorem dX6_addWord_49 : decode cX6_addWord 49 = .ok (.iload_n 3, 1) := by decide +kernel
theorem dX6_addWord_50 : decode cX6_addWord 50 = .ok (.iload 6, 2) := by decide +kernel
theorem dX6_addWord_52 : decode cX6_addWord 52 = .ok (.isub, 1) := by decide +kernel
theorem dX6_addWord_53 : decode cX6_addWord 53 = .ok (.invokevirtual 72, 3) := by decide +kernel
theorem dX6_addWord_56 : decode cX6_addWord 56 = .ok (.istore 7, 2) := by decide +kernel
theorem dX6_addWord_58 : decode cX6_addWord 58 = .ok (.aload_n 0, 1) := by decide +kernel
theorem dX6_addWord_59 : decode cX6_addWord 59 = .ok (.getfield 25, 3) := by decide +kernel
theorem dX6_addWord_62 : decode cX6_addWord 62 = .ok (.iload 5, 2) := by decide +kernel
theorem dX6_addWord_64 : decode cX6_addWord 64 = .ok (.iaload, 1) := by decide +kernel
theorem dX6_addWord_65 : decode cX6_addWord 65 = .ok (.ifCond .ne 12, 3) := by decide +kernel
theorem dX6_addWord_68 : decode cX6_addWord 68 = .ok (.aload_n 0, 1) := by decide +kernel
theorem dX6_addWord_69 : decode cX6_addWord 69 = .ok (.getfield 21, 3) := by decide +kernel
theorem dX6_addWord_72 : decode cX6_addWord 72 = .ok (.iload 5, 2) := by decide +kernel
theorem dX6_addWord_74 : decode cX6_addWord 74 = .ok (.iload 4, 2) := by decide +kernel
theorem dX6_addWord_76 : decode cX6_addWord 76 = .ok (.iastore, 1) := by decide +kernel
theorem dX6_addWord_77 : decode cX6_addWord 77 = .ok (.aload_n 0, 1) := by decide +kernel
theorem dX6_addWord_78 : decode cX6_addWord 78 = .ok (.getfield 30, 3) := by decide +kernel
theorem dX6_addWord_81 : decode cX6_addWord 81 = .ok (.iload 5, 2) := by decide +kernel
theorem dX6_addWord_83 : decode cX6_addWord 83 = .ok (.aaload, 1) := by decide +kernel
theorem dX6_addWord_84 : decode cX6_addWord 84 = .ok (.aload_n 0, 1) := by decide +kernel
theorem dX6_addWord_85 : decode cX6_addWord 85 = .ok (.getfield 25, 3) := by decide +kernel
theorem dX6_addWord_88 : decode cX6_addWord 88 = .ok (.iload 5, 2) := by decide +kernel
theorem dX6_addWord_90 : decode cX6_addWord 90 = .ok (.iaload, 1) := by decide +kernel
theorem dX6_addWord_91 : decode cX6_addWord 91 = .ok (.iload 7, 2) := by decide +kernel
theorem dX6_addWord_93 : decode cX6_addWord 93 = .ok (.iastore, 1) := by decide +kernel
theorem dX6_addWord_94 : decode cX6_addWord 94 = .ok (.aload_n 0, 1) := by decide +kernel
theorem dX6_addWord_95 : decode cX6_addWord 95 = .ok (.getfield 25, 3) := by decide +kernel
theorem dX6_addWord_98 : decode cX6_addWord 98 = .ok (.iload 5, 2) := by decide +kernel
theorem dX6_addWord_100 : decode cX6_addWord 100 = .ok (.dup2, 1) := by decide +kernel
theorem dX6_addWord_101 : decode cX6_addWord 101 = .ok (.iaload, 1) := by decide +kernel
theorem dX6_addWord_102 : decode cX6_addWord 102 = .ok (.iconst 1, 1) := by decide +kernel
theorem dX6_addWord_103 : decode cX6_addWord 103 = .ok (.iadd, 1) := by decide +kernel
theorem dX6_addWord_104 : decode cX6_addWord 104 = .ok (.iastore, 1) := by decide +kernel
theorem dX6_addWord_105 : decode cX6_addWord 105 = .ok (.aload_n 0, 1) := by decide +kernel
theorem dX6_addWord_106 : decode cX6_addWord 106 = .ok (.dup, 1) := by decide +kernel
theorem dX6_addWord_107 : decode cX6_addWord 107 = .ok (.getfield 15, 3) := by decide +kernel
theorem dX6_addWord_110 : decode cX6_addWord 110 = .ok (.iconst 1, 1) := by decide +kernel
theorem dX6_addWord_111 : decode cX6_addWord 111 = .ok (.iadd, 1) := by decide +kernel
theorem dX6_addWord_112 : decode cX6_addWord 112 = .ok (.putfield 15, 3) := by decide +kernel
theorem dX6_addWord_115 : decode cX6_addWord 115 = .ok (.aload_n 0, 1) := by decide +kernel
theorem dX6_addWord_116 : decode cX6_addWord 116 = .ok (.getfield 33, 3) := by decide +kernel
theorem dX6_addWord_119 : decode cX6_addWord 119 = .ok (.iload 5, 2) := by decide +kernel
theorem dX6_addWord_121 : decode cX6_addWord 121 = .ok (.aaload, 1) := by decide +kernel
theorem dX6_addWord_122 : decode cX6_addWord 122 = .ok (.iload 7, 2) := by decide +kernel
theorem dX6_addWord_124 : decode cX6_addWord 124 = .ok (.dup2, 1) := by decide +kernel
theorem dX6_addWord_125 : decode cX6_addWord 125 = .ok (.iaload, 1) := by decide +kernel
theorem dX6_addWord_126 : decode cX6_addWord 126 = .ok (.iconst 1, 1) := by decide +kernel
theorem dX6_addWord_127 : decode cX6_addWord 127 = .ok (.iadd, 1) := by decide +kernel
theorem dX6_addWord_128 : decode cX6_addWord 128 = .ok (.iastore, 1) := by decide +kernel
theorem dX6_addWord_129 : decode cX6_addWord 129 = .ok (.aload_n 0, 1) := by decide +kernel
theorem dX6_addWord_130 : decode cX6_addWord 130 = .ok (.getfield 39, 3) := by decide +kernel
theorem dX6_addWord_133 : decode cX6_addWord 133 = .ok (.iload 7, 2) := by decide +kernel
theorem dX6_addWord_135 : decode cX6_addWord 135 = .ok (.dup2, 1) := by decide +kernel
theorem dX6_addWord_136 : decode cX6_addWord 136 = .ok (.iaload, 1) := by decide +kernel
theorem dX6_addWord_137 : decode cX6_addWord 137 = .ok (.iconst 1, 1) := by decide +kernel
theorem dX6_addWord_138 : decode cX6_addWord 138 = .ok (.iadd, 1) := by decide +kernel
theorem dX6_addWord_139 : decode cX6_addWord 139 = .ok (.iastore, 1) := by decide +kernel
theorem dX6_addWord_140 : decode cX6_addWord 140 = .ok (.aload_n 0, 1) := by decide +kernel
theorem dX6_addWord_141 : decode cX6_addWord 141 = .ok (.getfield 45, 3) := by decide +kernel
theorem dX6_addWord_144 : decode cX6_addWord 144 = .ok (.iload 7, 2) := by decide +kernel
theorem dX6_addWord_146 : decode cX6_addWord 146 = .ok (.iload 5, 2) := by decide +kernel
theorem dX6_addWord_148 : decode cX6_addWord 148 = .ok (.iastore, 1) := by decide +kernel
theorem dX6_addWord_149 : decode cX6_addWord 149 = .ok (.return_, 1) := by decide +kernel
theorem dX6_endingOf_0 : decode cX6_endingOf 0 = .ok (.iload_n 2, 1) := by decide +kernel
theorem dX6_endingOf_1 : decode cX6_endingOf 1 = .ok (.bipush 6, 2) := by decide +kernel
theorem dX6_endingOf_3 : decode cX6_endingOf 3 = .ok (.if_icmp .lt 17, 3) := by decide +kernel
theorem dX6_endingOf_6 : decode cX6_endingOf 6 = .ok (.lload_n 0, 1) := by decide +kernel
theorem dX6_endingOf_7 : decode cX6_endingOf 7 = .ok (.ldc2_w 75, 3) := by decide +kernel
theorem dX6_endingOf_10 : decode cX6_endingOf 10 = .ok (.land, 1) := by decide +kernel
theorem dX6_endingOf_11 : decode cX6_endingOf 11 = .ok (.ldc2_w 77, 3) := by decide +kernel
theorem dX6_endingOf_14 : decode cX6_endingOf 14 = .ok (.lcmp, 1) := by decide +kernel
theorem dX6_endingOf_15 : decode cX6_endingOf 15 = .ok (.ifCond .ne 5, 3) := by decide +kernel
theorem dX6_endingOf_18 : decode cX6_endingOf 18 = .ok (.iconst 3, 1) := by decide +kernel
theorem dX6_endingOf_19 : decode cX6_endingOf 19 = .ok (.ireturn, 1) := by decide +kernel
theorem dX6_endingOf_20 : decode cX6_endingOf 20 = .ok (.iload_n 2, 1) := by decide +kernel
theorem dX6_endingOf_21 : decode cX6_endingOf 21 = .ok (.iconst 5, 1) := by decide +kernel
theorem dX6_endingOf_22 : decode cX6_endingOf 22 = .ok (.if_icmp .lt 17, 3) := by decide +kernel
theorem dX6_endingOf_25 : decode cX6_endingOf 25 = .ok (.lload_n 0, 1) := by decide +kernel
theorem dX6_endingOf_26 : decode cX6_endingOf 26 = .ok (.ldc2_w 79, 3) := by decide +kernel
theorem dX6_endingOf_29 : decode cX6_endingOf 29 = .ok (.land, 1) := by decide +kernel
theorem dX6_endingOf_30 : decode cX6_endingOf 30 = .ok (.ldc2_w 81, 3) := by decide +kernel
theorem dX6_endingOf_33 : decode cX6_endingOf 33 = .ok (.lcmp, 1) := by decide +kernel
theorem dX6_endingOf_34 : decode cX6_endingOf 34 = .ok (.ifCond .ne 5, 3) := by decide +kernel
theorem dX6_endingOf_37 : decode cX6_endingOf 37 = .ok (.iconst 2, 1) := by decide +kernel
theorem dX6_endingOf_38 : decode cX6_endingOf 38 = .ok (.ireturn, 1) := by decide +kernel
theorem dX6_endingOf_39 : decode cX6_endingOf 39 = .ok (.iload_n 2, 1) := by decide +kernel
theorem dX6_endingOf_40 : decode cX6_endingOf 40 = .ok (.iconst 4, 1) := by decide +kernel
theorem dX6_endingOf_41 : decode cX6_endingOf 41 = .ok (.if_icmp .lt 29, 3) := by decide +kernel
theorem dX6_endingOf_44 : decode cX6_endingOf 44 = .ok (.lload_n 0, 1) := by decide +kernel
theorem dX6_endingOf_45 : decode cX6_endingOf 45 = .ok (.ldc2_w 83, 3) := by decide +kernel
theorem dX6_endingOf_48 : decode cX6_endingOf 48 = .ok (.land, 1) := by decide +kernel
theorem dX6_endingOf_49 : decode cX6_endingOf 49 = .ok (.ldc2_w 85, 3) := by decide +kernel
theorem dX6_endingOf_52 : decode cX6_endingOf 52 = .ok (.lcmp, 1) := by decide +kernel
theorem dX6_endingOf_53 : decode cX6_endingOf 53 = .ok (.ifCond .ne 17, 3) := by decide +kernel
theorem dX6_endingOf_56 : decode cX6_endingOf 56 = .ok (.lload_n 0, 1) := by decide +kernel
theorem dX6_endingOf_57 : decode cX6_endingOf 57 = .ok (.ldc2_w 79, 3) := by decide +kernel
theorem dX6_endingOf_60 : decode cX6_endingOf 60 = .ok (.land, 1) := by decide +kernel
theorem dX6_endingOf_61 : decode cX6_endingOf 61 = .ok (.ldc2_w 87, 3) := by decide +kernel
theorem dX6_endingOf_64 : decode cX6_endingOf 64 = .ok (.lcmp, 1) := by decide +kernel
theorem dX6_endingOf_65 : decode cX6_endingOf 65 = .ok (.ifCond .eq 5, 3) := by decide +kernel
theorem dX6_endingOf_68 : decode cX6_endingOf 68 = .ok (.iconst 1, 1) := by decide +kernel
theorem dX6_endingOf_69 : decode cX6_endingOf 69 = .ok (.ireturn, 1) := by decide +kernel
theorem dX6_endingOf_70 : decode cX6_endingOf 70 = .ok (.iconst 0, 1) := by decide +kernel
theorem dX6_endingOf_71 : decode cX6_endingOf 71 = .ok (.ireturn, 1) := by decide +kernel
theorem dX6_numberOf_0 : decode cX6_numberOf 0 = .ok (.iconst 0, 1) := by decide +kernel
theorem dX6_numberOf_1 : decode cX6_numberOf 1 = .ok (.istore 4, 2) := by decide +kernel
theorem dX6_numberOf_3 : decode cX6_numberOf 3 = .ok (.iload 4, 2) := by decide +kernel
theorem dX6_numberOf_5 : decode cX6_numberOf 5 = .ok (.aload_n 0, 1) := by decide +kernel
theorem dX6_numberOf_6 : decode cX6_numberOf 6 = .ok (.getfield 18, 3) := by decide +kernel
theorem dX6_numberOf_9 : decode cX6_numberOf 9 = .ok (.if_icmp .ge 24, 3) := by decide +kernel
theorem dX6_numberOf_12 : decode cX6_numberOf 12 = .ok (.aload_n 0, 1) := by decide +kernel
theorem dX6_numberOf_13 : decode cX6_numberOf 13 = .ok (.getfield 48, 3) := by decide +kernel
theorem dX6_numberOf_16 : decode cX6_numberOf 16 = .ok (.iload 4, 2) := by decide +kernel
theorem dX6_numberOf_18 : decode cX6_numberOf 18 = .ok (.laload, 1) := by decide +kernel
theorem dX6_numberOf_19 : decode cX6_numberOf 19 = .ok (.lload_n 1, 1) := by decide +kernel
theorem dX6_numberOf_20 : decode cX6_numberOf 20 = .ok (.lcmp, 1) := by decide +kernel
theorem dX6_numberOf_21 : decode cX6_numberOf 21 = .ok (.ifCond .ne 6, 3) := by decide +kernel
theorem dX6_numberOf_24 : decode cX6_numberOf 24 = .ok (.iload 4, 2) := by decide +kernel
theorem dX6_numberOf_26 : decode cX6_numberOf 26 = .ok (.ireturn, 1) := by decide +kernel
theorem dX6_numberOf_27 : decode cX6_numberOf 27 = .ok (.iinc 4 1, 3) := by decide +kernel
theorem dX6_numberOf_30 : decode cX6_numberOf 30 = .ok (.goto (-27), 3) := by decide +kernel
theorem dX6_numberOf_33 : decode cX6_numberOf 33 = .ok (.aload_n 0, 1) := by decide +kernel
theorem dX6_numberOf_34 : decode cX6_numberOf 34 = .ok (.getfield 18, 3) := by decide +kernel
theorem dX6_numberOf_37 : decode cX6_numberOf 37 = .ok (.istore 4, 2) := by decide +kernel
theorem dX6_numberOf_39 : decode cX6_numberOf 39 = .ok (.aload_n 0, 1) := by decide +kernel
theorem dX6_numberOf_40 : decode cX6_numberOf 40 = .ok (.getfield 48, 3) := by decide +kernel
theorem dX6_numberOf_43 : decode cX6_numberOf 43 = .ok (.iload 4, 2) := by decide +kernel
theorem dX6_numberOf_45 : decode cX6_numberOf 45 = .ok (.lload_n 1, 1) := by decide +kernel
theorem dX6_numberOf_46 : decode cX6_numberOf 46 = .ok (.lastore, 1) := by decide +kernel
theorem dX6_numberOf_47 : decode cX6_numberOf 47 = .ok (.aload_n 0, 1) := by decide +kernel
theorem dX6_numberOf_48 : decode cX6_numberOf 48 = .ok (.getfield 36, 3) := by decide +kernel
theorem dX6_numberOf_51 : decode cX6_numberOf 51 = .ok (.iload 4, 2) := by decide +kernel
theorem dX6_numberOf_53 : decode cX6_numberOf 53 = .ok (.iload_n 3, 1) := by decide +kernel
theorem dX6_numberOf_54 : decode cX6_numberOf 54 = .ok (.iastore, 1) := by decide +kernel
theorem dX6_numberOf_55 : decode cX6_numberOf 55 = .ok (.aload_n 0, 1) := by decide +kernel
theorem dX6_numberOf_56 : decode cX6_numberOf 56 = .ok (.getfield 39, 3) := by decide +kernel
theorem dX6_numberOf_59 : decode cX6_numberOf 59 = .ok (.iload 4, 2) := by decide +kernel
theorem dX6_numberOf_61 : decode cX6_numberOf 61 = .ok (.iconst 0, 1) := by decide +kernel
theorem dX6_numberOf_62 : decode cX6_numberOf 62 = .ok (.iastore, 1) := by decide +kernel
theorem dX6_numberOf_63 : decode cX6_numberOf 63 = .ok (.aload_n 0, 1) := by decide +kernel
theorem dX6_numberOf_64 : decode cX6_numberOf 64 = .ok (.getfield 42, 3) := by decide +kernel
theorem dX6_numberOf_67 : decode cX6_numberOf 67 = .ok (.iload 4, 2) := by decide +kernel
theorem dX6_numberOf_69 : decode cX6_numberOf 69 = .ok (.aload_n 0, 1) := by decide +kernel
theorem dX6_numberOf_70 : decode cX6_numberOf 70 = .ok (.getfield 9, 3) := by decide +kernel
theorem dX6_numberOf_73 : decode cX6_numberOf 73 = .ok (.iastore, 1) := by decide +kernel
theorem dX6_numberOf_74 : decode cX6_numberOf 74 = .ok (.iconst 0, 1) := by decide +kernel
theorem dX6_numberOf_75 : decode cX6_numberOf 75 = .ok (.istore 5, 2) := by decide +kernel
theorem dX6_numberOf_77 : decode cX6_numberOf 77 = .ok (.iload 5, 2) := by decide +kernel
theorem dX6_numberOf_79 : decode cX6_numberOf 79 = .ok (.bipush 12, 2) := by decide +kernel
theorem dX6_numberOf_81 : decode cX6_numberOf 81 = .ok (.if_icmp .ge 20, 3) := by decide +kernel
theorem dX6_numberOf_84 : decode cX6_numberOf 84 = .ok (.aload_n 0, 1) := by decide +kernel
theorem dX6_numberOf_85 : decode cX6_numberOf 85 = .ok (.getfield 33, 3) := by decide +kernel
theorem dX6_numberOf_88 : decode cX6_numberOf 88 = .ok (.iload 5, 2) := by decide +kernel
theorem dX6_numberOf_90 : decode cX6_numberOf 90 = .ok (.aaload, 1) := by decide +kernel
theorem dX6_numberOf_91 : decode cX6_numberOf 91 = .ok (.iload 4, 2) := by decide +kernel
theorem dX6_numberOf_93 : decode cX6_numberOf 93 = .ok (.iconst 0, 1) := by decide +kernel
theorem dX6_numberOf_94 : decode cX6_numberOf 94 = .ok (.iastore, 1) := by decide +kernel
theorem dX6_numberOf_95 : decode cX6_numberOf 95 = .ok (.iinc 5 1, 3) := by decide +kernel
theorem dX6_numberOf_98 : decode cX6_numberOf 98 = .ok (.goto (-21), 3) := by decide +kernel
theorem dX6_numberOf_101 : decode cX6_numberOf 101 = .ok (.aload_n 0, 1) := by decide +kernel
theorem dX6_numberOf_102 : decode cX6_numberOf 102 = .ok (.dup, 1) := by decide +kernel
theorem dX6_numberOf_103 : decode cX6_numberOf 103 = .ok (.getfield 18, 3) := by decide +kernel
theorem dX6_numberOf_106 : decode cX6_numberOf 106 = .ok (.iconst 1, 1) := by decide +kernel
theorem dX6_numberOf_107 : decode cX6_numberOf 107 = .ok (.iadd, 1) := by decide +kernel
theorem dX6_numberOf_108 : decode cX6_numberOf 108 = .ok (.putfield 18, 3) := by decide +kernel
theorem dX6_numberOf_111 : decode cX6_numberOf 111 = .ok (.iload 4, 2) := by decide +kernel
theorem dX6_numberOf_113 : decode cX6_numberOf 113 = .ok (.ireturn, 1) := by decide +kernel
theorem dX6_letterOf_0 : decode cX6_letterOf 0 = .ok (.aload_n 0, 1) := by decide +kernel
theorem dX6_letterOf_1 : decode cX6_letterOf 1 = .ok (.getfield 36, 3) := by decide +kernel
theorem dX6_letterOf_4 : decode cX6_letterOf 4 = .ok (.iload_n 1, 1) := by decide +kernel
theorem dX6_letterOf_5 : decode cX6_letterOf 5 = .ok (.iaload, 1) := by decide +kernel
theorem dX6_letterOf_6 : decode cX6_letterOf 6 = .ok (.iconst 1, 1) := by decide +kernel
theorem dX6_letterOf_7 : decode cX6_letterOf 7 = .ok (.isub, 1) := by decide +kernel
theorem dX6_letterOf_8 : decode cX6_letterOf 8 = .ok (.iload_n 2, 1) := by decide +kernel
theorem dX6_letterOf_9 : decode cX6_letterOf 9 = .ok (.isub, 1) := by decide +kernel
theorem dX6_letterOf_10 : decode cX6_letterOf 10 = .ok (.istore_n 3, 1) := by decide +kernel
theorem dX6_letterOf_11 : decode cX6_letterOf 11 = .ok (.bipush 96, 2) := by decide +kernel
theorem dX6_letterOf_13 : decode cX6_letterOf 13 = .ok (.aload_n 0, 1) := by decide +kernel
theorem dX6_letterOf_14 : decode cX6_letterOf 14 = .ok (.getfield 48, 3) := by decide +kernel
theorem dX6_letterOf_17 : decode cX6_letterOf 17 = .ok (.iload_n 1, 1) := by decide +kernel
theorem dX6_letterOf_18 : decode cX6_letterOf 18 = .ok (.laload, 1) := by decide +kernel
theorem dX6_letterOf_19 : decode cX6_letterOf 19 = .ok (.iconst 5, 1) := by decide +kernel
theorem dX6_letterOf_20 : decode cX6_letterOf 20 = .ok (.iload_n 3, 1) := by decide +kernel
theorem dX6_letterOf_21 : decode cX6_letterOf 21 = .ok (.imul, 1) := by decide +kernel
theorem dX6_letterOf_22 : decode cX6_letterOf 22 = .ok (.lshr, 1) := by decide +kernel
theorem dX6_letterOf_23 : decode cX6_letterOf 23 = .ok (.ldc2_w 83, 3) := by decide +kernel
theorem dX6_letterOf_26 : decode cX6_letterOf 26 = .ok (.land, 1) := by decide +kernel
theorem dX6_letterOf_27 : decode cX6_letterOf 27 = .ok (.l2i, 1) := by decide +kernel
theorem dX6_letterOf_28 : decode cX6_letterOf 28 = .ok (.iadd, 1) := by decide +kernel
theorem dX6_letterOf_29 : decode cX6_letterOf 29 = .ok (.ireturn, 1) := by decide +kernel
theorem dX6_unlikeIn_0 : decode cX6_unlikeIn 0 = .ok (.iconst 0, 1) := by decide +kernel
theorem dX6_unlikeIn_1 : decode cX6_unlikeIn 1 = .ok (.istore_n 2, 1) := by decide +kernel
theorem dX6_unlikeIn_2 : decode cX6_unlikeIn 2 = .ok (.iconst 0, 1) := by decide +kernel
theorem dX6_unlikeIn_3 : decode cX6_unlikeIn 3 = .ok (.istore_n 3, 1) := by decide +kernel
theorem dX6_unlikeIn_4 : decode cX6_unlikeIn 4 = .ok (.iload_n 3, 1) := by decide +kernel
theorem dX6_unlikeIn_5 : decode cX6_unlikeIn 5 = .ok (.aload_n 0, 1) := by decide +kernel
theorem dX6_unlikeIn_6 : decode cX6_unlikeIn 6 = .ok (.getfield 18, 3) := by decide +kernel
theorem dX6_unlikeIn_9 : decode cX6_unlikeIn 9 = .ok (.if_icmp .ge 23, 3) := by decide +kernel
theorem dX6_unlikeIn_12 : decode cX6_unlikeIn 12 = .ok (.aload_n 0, 1) := by decide +kernel
theorem dX6_unlikeIn_13 : decode cX6_unlikeIn 13 = .ok (.getfield 33, 3) := by decide +kernel
theorem dX6_unlikeIn_16 : decode cX6_unlikeIn 16 = .ok (.iload_n 1, 1) := by decide +kernel
theorem dX6_unlikeIn_17 : decode cX6_unlikeIn 17 = .ok (.aaload, 1) := by decide +kernel
theorem dX6_unlikeIn_18 : decode cX6_unlikeIn 18 = .ok (.iload_n 3, 1) := by decide +kernel
theorem dX6_unlikeIn_19 : decode cX6_unlikeIn 19 = .ok (.iaload, 1) := by decide +kernel
theorem dX6_unlikeIn_20 : decode cX6_unlikeIn 20 = .ok (.ifCond .le 6, 3) := by decide +kernel
theorem dX6_unlikeIn_23 : decode cX6_unlikeIn 23 = .ok (.iinc 2 1, 3) := by decide +kernel
theorem dX6_unlikeIn_26 : decode cX6_unlikeIn 26 = .ok (.iinc 3 1, 3) := by decide +kernel
theorem dX6_unlikeIn_29 : decode cX6_unlikeIn 29 = .ok (.goto (-25), 3) := by decide +kernel
theorem dX6_unlikeIn_32 : decode cX6_unlikeIn 32 = .ok (.iload_n 2, 1) := by decide +kernel
theorem dX6_unlikeIn_33 : decode cX6_unlikeIn 33 = .ok (.ireturn, 1) := by decide +kernel
theorem dX6_onceIn_0 : decode cX6_onceIn 0 = .ok (.iconst 0, 1) := by decide +kernel
theorem dX6_onceIn_1 : decode cX6_onceIn 1 = .ok (.istore_n 2, 1) := by decide +kernel
theorem dX6_onceIn_2 : decode cX6_onceIn 2 = .ok (.iconst 0, 1) := by decide +kernel
theorem dX6_onceIn_3 : decode cX6_onceIn 3 = .ok (.istore_n 3, 1) := by decide +kernel
theorem dX6_onceIn_4 : decode cX6_onceIn 4 = .ok (.iload_n 3, 1) := by decide +kernel
theorem dX6_onceIn_5 : decode cX6_onceIn 5 = .ok (.aload_n 0, 1) := by decide +kernel
theorem dX6_onceIn_6 : decode cX6_onceIn 6 = .ok (.getfield 18, 3) := by decide +kernel
theorem dX6_onceIn_9 : decode cX6_onceIn 9 = .ok (.if_icmp .ge 24, 3) := by decide +kernel
theorem dX6_onceIn_12 : decode cX6_onceIn 12 = .ok (.aload_n 0, 1) := by decide +kernel
theorem dX6_onceIn_13 : decode cX6_onceIn 13 = .ok (.getfield 33, 3) := by decide +kernel
theorem dX6_onceIn_16 : decode cX6_onceIn 16 = .ok (.iload_n 1, 1) := by decide +kernel
theorem dX6_onceIn_17 : decode cX6_onceIn 17 = .ok (.aaload, 1) := by decide +kernel
theorem dX6_onceIn_18 : decode cX6_onceIn 18 = .ok (.iload_n 3, 1) := by decide +kernel
theorem dX6_onceIn_19 : decode cX6_onceIn 19 = .ok (.iaload, 1) := by decide +kernel
theorem dX6_onceIn_20 : decode cX6_onceIn 20 = .ok (.iconst 1, 1) := by decide +kernel
theorem dX6_onceIn_21 : decode cX6_onceIn 21 = .ok (.if_icmp .ne 6, 3) := by decide +kernel
theorem dX6_onceIn_24 : decode cX6_onceIn 24 = .ok (.iinc 2 1, 3) := by decide +kernel
theorem dX6_onceIn_27 : decode cX6_onceIn 27 = .ok (.iinc 3 1, 3) := by decide +kernel
theorem dX6_onceIn_30 : decode cX6_onceIn 30 = .ok (.goto (-26), 3) := by decide +kernel
theorem dX6_onceIn_33 : decode cX6_onceIn 33 = .ok (.iload_n 2, 1) := by decide +kernel
theorem dX6_onceIn_34 : decode cX6_onceIn 34 = .ok (.ireturn, 1) := by decide +kernel
theorem dX7_init_0 : decode cX7_init 0 = .ok (.aload_n 0, 1) := by decide +kernel
theorem dX7_init_1 : decode cX7_init 1 = .ok (.invokespecial 3, 3) := by decide +kernel
theorem dX7_init_4 : decode cX7_init 4 = .ok (.aload_n 0, 1) := by decide +kernel
theorem dX7_init_5 : decode cX7_init 5 = .ok (.iconst 4, 1) := by decide +kernel
theorem dX7_init_6 : decode cX7_init 6 = .ok (.newarray .int, 2) := by decide +kernel
theorem dX7_init_8 : decode cX7_init 8 = .ok (.dup, 1) := by decide +kernel
theorem dX7_init_9 : decode cX7_init 9 = .ok (.iconst 0, 1) := by decide +kernel
theorem dX7_init_10 : decode cX7_init 10 = .ok (.iconst (-1), 1) := by decide +kernel
theorem dX7_init_11 : decode cX7_init 11 = .ok (.iastore, 1) := by decide +kernel
theorem dX7_init_12 : decode cX7_init 12 = .ok (.dup, 1) := by decide +kernel
theorem dX7_init_13 : decode cX7_init 13 = .ok (.iconst 1, 1) := by decide +kernel
theorem dX7_init_14 : decode cX7_init 14 = .ok (.iconst (-1), 1) := by decide +kernel
theorem dX7_init_15 : decode cX7_init 15 = .ok (.iastore, 1) := by decide +kernel
theorem dX7_init_16 : decode cX7_init 16 = .ok (.dup, 1) := by decide +kernel
theorem dX7_init_17 : decode cX7_init 17 = .ok (.iconst 2, 1) := by decide +kernel
theorem dX7_init_18 : decode cX7_init 18 = .ok (.iconst (-1), 1) := by decide +kernel
theorem dX7_init_19 : decode cX7_init 19 = .ok (.iastore, 1) := by decide +kernel
theorem dX7_init_20 : decode cX7_init 20 = .ok (.dup, 1) := by decide +kernel
theorem dX7_init_21 : decode cX7_init 21 = .ok (.iconst 3, 1) := by decide +kernel
theorem dX7_init_22 : decode cX7_init 22 = .ok (.iconst (-1), 1) := by decide +kernel
theorem dX7_init_23 : decode cX7_init 23 = .ok (.iastore, 1) := by decide +kernel
theorem dX7_init_24 : decode cX7_init 24 = .ok (.putfield 9, 3) := by decide +kernel
theorem dX7_init_27 : decode cX7_init 27 = .ok (.aload_n 0, 1) := by decide +kernel
theorem dX7_init_28 : decode cX7_init 28 = .ok (.iconst 4, 1) := by decide +kernel
theorem dX7_init_29 : decode cX7_init 29 = .ok (.newarray .int, 2) := by decide +kernel
theorem dX7_init_31 : decode cX7_init 31 = .ok (.putfield 15, 3) := by decide +kernel
theorem dX7_init_34 : decode cX7_init 34 = .ok (.aload_n 0, 1) := by decide +kernel
theorem dX7_init_35 : decode cX7_init 35 = .ok (.iconst 4, 1) := by decide +kernel
theorem dX7_init_36 : decode cX7_init 36 = .ok (.bipush 60, 2) := by decide +kernel
theorem dX7_init_38 : decode cX7_init 38 = .ok (.multianewarray 18 2, 4) := by decide +kernel
theorem dX7_init_42 : decode cX7_init 42 = .ok (.putfield 20, 3) := by decide +kernel
theorem dX7_init_45 : decode cX7_init 45 = .ok (.return_, 1) := by decide +kernel
theorem dX7_isLost_0 : decode cX7_isLost 0 = .ok (.aload_n 0, 1) := by decide +kernel
theorem dX7_isLost_1 : decode cX7_isLost 1 = .ok (.getfield 9, 3) := by decide +kernel
theorem dX7_isLost_4 : decode cX7_isLost 4 = .ok (.iload_n 1, 1) := by decide +kernel
theorem dX7_isLost_5 : decode cX7_isLost 5 = .ok (.iaload, 1) := by decide +kernel
theorem dX7_isLost_6 : decode cX7_isLost 6 = .ok (.iconst (-1), 1) := by decide +kernel
theorem dX7_isLost_7 : decode cX7_isLost 7 = .ok (.if_icmp .ne 7, 3) := by decide +kernel
theorem dX7_isLost_10 : decode cX7_isLost 10 = .ok (.iconst 1, 1) := by decide +kernel
theorem dX7_isLost_11 : decode cX7_isLost 11 = .ok (.goto 4, 3) := by decide +kernel
theorem dX7_isLost_14 : decode cX7_isLost 14 = .ok (.iconst 0, 1) := by decide +kernel
theorem dX7_isLost_15 : decode cX7_isLost 15 = .ok (.ireturn, 1) := by decide +kernel
theorem dX7_make_0 : decode cX7_make 0 = .ok (.aload_n 0, 1) := by decide +kernel
theorem dX7_make_1 : decode cX7_make 1 = .ok (.getfield 9, 3) := by decide +kernel
theorem dX7_make_4 : decode cX7_make 4 = .ok (.iload_n 1, 1) := by decide +kernel
theorem dX7_make_5 : decode cX7_make 5 = .ok (.iload_n 2, 1) := by decide +kernel
theorem dX7_make_6 : decode cX7_make 6 = .ok (.iastore, 1) := by decide +kernel
theorem dX7_make_7 : decode cX7_make 7 = .ok (.aload_n 0, 1) := by decide +kernel
theorem dX7_make_8 : decode cX7_make 8 = .ok (.getfield 15, 3) := by decide +kernel
theorem dX7_make_11 : decode cX7_make 11 = .ok (.iload_n 1, 1) := by decide +kernel
theorem dX7_make_12 : decode cX7_make 12 = .ok (.iload_n 3, 1) := by decide +kernel
theorem dX7_make_13 : decode cX7_make 13 = .ok (.iastore, 1) := by decide +kernel
theorem dX7_make_14 : decode cX7_make 14 = .ok (.iconst 0, 1) := by decide +kernel
theorem dX7_make_15 : decode cX7_make 15 = .ok (.istore 4, 2) := by decide +kernel
theorem dX7_make_17 : decode cX7_make 17 = .ok (.iload 4, 2) := by decide +kernel
theorem dX7_make_19 : decode cX7_make 19 = .ok (.iload_n 3, 1) := by decide +kernel
theorem dX7_make_20 : decode cX7_make 20 = .ok (.if_icmp .ge 19, 3) := by decide +kernel
theorem dX7_make_23 : decode cX7_make 23 = .ok (.aload_n 0, 1) := by decide +kernel
theorem dX7_make_24 : decode cX7_make 24 = .ok (.getfield 20, 3) := by decide +kernel
theorem dX7_make_27 : decode cX7_make 27 = .ok (.iload_n 1, 1) := by decide +kernel
theorem dX7_make_28 : decode cX7_make 28 = .ok (.aaload, 1) := by decide +kernel
theorem dX7_make_29 : decode cX7_make 29 = .ok (.iload 4, 2) := by decide +kernel
theorem dX7_make_31 : decode cX7_make 31 = .ok (.iconst 0, 1) := by decide +kernel
theorem dX7_make_32 : decode cX7_make 32 = .ok (.iastore, 1) := by decide +kernel
theorem dX7_make_33 : decode cX7_make 33 = .ok (.iinc 4 1, 3) := by decide +kernel
theorem dX7_make_36 : decode cX7_make 36 = .ok (.goto (-19), 3) := by decide +kernel
theorem dX7_make_39 : decode cX7_make 39 = .ok (.return_, 1) := by decide +kernel
theorem dX7_againstItem_0 : decode cX7_againstItem 0 = .ok (.aload_n 0, 1) := by decide +kernel
theorem dX7_againstItem_1 : decode cX7_againstItem 1 = .ok (.iload_n 1, 1) := by decide +kernel
theorem dX7_againstItem_2 : decode cX7_againstItem 2 = .ok (.invokevirtual 23, 3) := by decide +kernel
theorem dX7_againstItem_5 : decode cX7_againstItem 5 = .ok (.ifCond .eq 5, 3) := by decide +kernel
theorem dX7_againstItem_8 : decode cX7_againstItem 8 = .ok (.iconst 1, 1) := by decide +kernel
theorem dX7_againstItem_9 : decode cX7_againstItem 9 = .ok (.ireturn, 1) := by decide +kernel
theorem dX7_againstItem_10 : decode cX7_againstItem 10 = .ok (.aload_n 0, 1) := by decide +kernel
theorem dX7_againstItem_11 : decode cX7_againstItem 11 = .ok (.getfield 9, 3) := by decide +kernel
theorem dX7_againstItem_14 : decode cX7_againstItem 14 = .ok (.iload_n 1, 1) := by decide +kernel
theorem dX7_againstItem_15 : decode cX7_againstItem 15 = .ok (.iaload, 1) := by decide +kernel
theorem dX7_againstItem_16 : decode cX7_againstItem 16 = .ok (.iload_n 2, 1) := by decide +kernel
theorem dX7_againstItem_17 : decode cX7_againstItem 17 = .ok (.if_icmp .eq 5, 3) := by decide +kernel
theorem dX7_againstItem_20 : decode cX7_againstItem 20 = .ok (.iconst 3, 1) := by decide +kernel
theorem dX7_againstItem_21 : decode cX7_againstItem 21 = .ok (.ireturn, 1) := by decide +kernel
theorem dX7_againstItem_22 : decode cX7_againstItem 22 = .ok (.iload_n 3, 1) := by decide +kernel
theorem dX7_againstItem_23 : decode cX7_againstItem 23 = .ok (.ifCond .lt 13, 3) := by decide +kernel
theorem dX7_againstItem_26 : decode cX7_againstItem 26 = .ok (.iload_n 3, 1) := by decide +kernel
theorem dX7_againstItem_27 : decode cX7_againstItem 27 = .ok (.aload_n 0, 1) := by decide +kernel
theorem dX7_againstItem_28 : decode cX7_againstItem 28 = .ok (.getfield 15, 3) := by decide +kernel
theorem dX7_againstItem_31 : decode cX7_againstItem 31 = .ok (.iload_n 1, 1) := by decide +kernel
theorem dX7_againstItem_32 : decode cX7_againstItem 32 = .ok (.iaload, 1) := by decide +kernel
theorem dX7_againstItem_33 : decode cX7_againstItem 33 = .ok (.if_icmp .lt 7, 3) := by decide +kernel
theorem dX7_againstItem_36 : decode cX7_againstItem 36 = .ok (.iconst 2, 1) := by decide +kernel
theorem dX7_againstItem_37 : decode cX7_againstItem 37 = .ok (.goto 4, 3) := by decide +kernel
theorem dX7_againstItem_40 : decode cX7_againstItem 40 = .ok (.iconst 0, 1) := by decide +kernel
theorem dX7_againstItem_41 : decode cX7_againstItem 41 = .ok (.ireturn, 1) := by decide +kernel
theorem dX7_lacks_0 : decode cX7_lacks 0 = .ok (.iload_n 2, 1) := by decide +kernel
theorem dX7_lacks_1 : decode cX7_lacks 1 = .ok (.ifCond .lt 19, 3) := by decide +kernel
theorem dX7_lacks_4 : decode cX7_lacks 4 = .ok (.iload_n 3, 1) := by decide +kernel
theorem dX7_lacks_5 : decode cX7_lacks 5 = .ok (.ifCond .lt 15, 3) := by decide +kernel
theorem dX7_lacks_8 : decode cX7_lacks 8 = .ok (.iload_n 3, 1) := by decide +kernel
theorem dX7_lacks_9 : decode cX7_lacks 9 = .ok (.aload_n 0, 1) := by decide +kernel
theorem dX7_lacks_10 : decode cX7_lacks 10 = .ok (.getfield 15, 3) := by decide +kernel
theorem dX7_lacks_13 : decode cX7_lacks 13 = .ok (.iload_n 1, 1) := by decide +kernel
theorem dX7_lacks_14 : decode cX7_lacks 14 = .ok (.iaload, 1) := by decide +kernel
theorem dX7_lacks_15 : decode cX7_lacks 15 = .ok (.iload_n 2, 1) := by decide +kernel
theorem dX7_lacks_16 : decode cX7_lacks 16 = .ok (.isub, 1) := by decide +kernel
theorem dX7_lacks_17 : decode cX7_lacks 17 = .ok (.if_icmp .le 7, 3) := by decide +kernel
theorem dX7_lacks_20 : decode cX7_lacks 20 = .ok (.iconst 1, 1) := by decide +kernel
theorem dX7_lacks_21 : decode cX7_lacks 21 = .ok (.goto 4, 3) := by decide +kernel
theorem dX7_lacks_24 : decode cX7_lacks 24 = .ok (.iconst 0, 1) := by decide +kernel
theorem dX7_lacks_25 : decode cX7_lacks 25 = .ok (.ireturn, 1) := by decide +kernel
theorem dX7_item_0 : decode cX7_item 0 = .ok (.aload_n 0, 1) := by decide +kernel
theorem dX7_item_1 : decode cX7_item 1 = .ok (.getfield 20, 3) := by decide +kernel
theorem dX7_item_4 : decode cX7_item 4 = .ok (.iload_n 1, 1) := by decide +kernel
theorem dX7_item_5 : decode cX7_item 5 = .ok (.aaload, 1) := by decide +kernel
theorem dX7_item_6 : decode cX7_item 6 = .ok (.iload_n 2, 1) := by decide +kernel
theorem dX7_item_7 : decode cX7_item 7 = .ok (.iaload, 1) := by decide +kernel
theorem dX7_item_8 : decode cX7_item 8 = .ok (.ireturn, 1) := by decide +kernel
theorem dX7_keep_0 : decode cX7_keep 0 = .ok (.aload_n 0, 1) := by decide +kernel
theorem dX7_keep_1 : decode cX7_keep 1 = .ok (.getfield 20, 3) := by decide +kernel
theorem dX7_keep_4 : decode cX7_keep 4 = .ok (.iload_n 1, 1) := by decide +kernel
theorem dX7_keep_5 : decode cX7_keep 5 = .ok (.aaload, 1) := by decide +kernel
theorem dX7_keep_6 : decode cX7_keep 6 = .ok (.iload_n 2, 1) := by decide +kernel
theorem dX7_keep_7 : decode cX7_keep 7 = .ok (.aload_n 0, 1) := by decide +kernel
theorem dX7_keep_8 : decode cX7_keep 8 = .ok (.getfield 9, 3) := by decide +kernel
theorem dX7_keep_11 : decode cX7_keep 11 = .ok (.iload_n 1, 1) := by decide +kernel
theorem dX7_keep_12 : decode cX7_keep 12 = .ok (.iaload, 1) := by decide +kernel
theorem dX7_keep_13 : decode cX7_keep 13 = .ok (.ifCond .ne 8, 3) := by decide +kernel
theorem dX7_keep_16 : decode cX7_keep 16 = .ok (.iload_n 3, 1) := by decide +kernel
theorem dX7_keep_17 : decode cX7_keep 17 = .ok (.i2b, 1) := by decide +kernel
theorem dX7_keep_18 : decode cX7_keep 18 = .ok (.goto 19, 3) := by decide +kernel
theorem dX7_keep_21 : decode cX7_keep 21 = .ok (.aload_n 0, 1) := by decide +kernel
theorem dX7_keep_22 : decode cX7_keep 22 = .ok (.getfield 9, 3) := by decide +kernel
theorem dX7_keep_25 : decode cX7_keep 25 = .ok (.iload_n 1, 1) := by decide +kernel
theorem dX7_keep_26 : decode cX7_keep 26 = .ok (.iaload, 1) := by decide +kernel
theorem dX7_keep_27 : decode cX7_keep 27 = .ok (.iconst 1, 1) := by decide +kernel
theorem dX7_keep_28 : decode cX7_keep 28 = .ok (.if_icmp .ne 8, 3) := by decide +kernel
theorem dX7_keep_31 : decode cX7_keep 31 = .ok (.iload_n 3, 1) := by decide +kernel
theorem dX7_keep_32 : decode cX7_keep 32 = .ok (.i2s, 1) := by decide +kernel
theorem dX7_keep_33 : decode cX7_keep 33 = .ok (.goto 4, 3) := by decide +kernel
theorem dX7_keep_36 : decode cX7_keep 36 = .ok (.iload_n 3, 1) := by decide +kernel
theorem dX7_keep_37 : decode cX7_keep 37 = .ok (.iastore, 1) := by decide +kernel
theorem dX7_keep_38 : decode cX7_keep 38 = .ok (.return_, 1) := by decide +kernel
theorem dX7_move_0 : decode cX7_move 0 = .ok (.aload_n 0, 1) := by decide +kernel
theorem dX7_move_1 : decode cX7_move 1 = .ok (.getfield 20, 3) := by decide +kernel
theorem dX7_move_4 : decode cX7_move 4 = .ok (.iload_n 1, 1) := by decide +kernel
theorem dX7_move_5 : decode cX7_move 5 = .ok (.aaload, 1) := by decide +kernel
theorem dX7_move_6 : decode cX7_move 6 = .ok (.iload_n 2, 1) := by decide +kernel
theorem dX7_move_7 : decode cX7_move 7 = .ok (.aload_n 0, 1) := by decide +kernel
theorem dX7_move_8 : decode cX7_move 8 = .ok (.getfield 20, 3) := by decide +kernel
theorem dX7_move_11 : decode cX7_move 11 = .ok (.iload_n 3, 1) := by decide +kernel
theorem dX7_move_12 : decode cX7_move 12 = .ok (.aaload, 1) := by decide +kernel
theorem dX7_move_13 : decode cX7_move 13 = .ok (.iload 4, 2) := by decide +kernel
theorem dX7_move_15 : decode cX7_move 15 = .ok (.iload 5, 2) := by decide +kernel
theorem dX7_move_17 : decode cX7_move 17 = .ok (.invokestatic 27, 3) := by decide +kernel
theorem dX7_move_20 : decode cX7_move 20 = .ok (.return_, 1) := by decide +kernel
theorem dX8_init_0 : decode cX8_init 0 = .ok (.aload_n 0, 1) := by decide +kernel
theorem dX8_init_1 : decode cX8_init 1 = .ok (.invokespecial 3, 3) := by decide +kernel
theorem dX8_init_4 : decode cX8_init 4 = .ok (.aload_n 0, 1) := by decide +kernel
theorem dX8_init_5 : decode cX8_init 5 = .ok (.sipush 200, 3) := by decide +kernel
theorem dX8_init_8 : decode cX8_init 8 = .ok (.newarray .int, 2) := by decide +kernel
theorem dX8_init_10 : decode cX8_init 10 = .ok (.putfield 9, 3) := by decide +kernel
theorem dX8_init_13 : decode cX8_init 13 = .ok (.aload_n 0, 1) := by decide +kernel
theorem dX8_init_14 : decode cX8_init 14 = .ok (.iconst 0, 1) := by decide +kernel
theorem dX8_init_15 : decode cX8_init 15 = .ok (.putfield 15, 3) := by decide +kernel
theorem dX8_init_18 : decode cX8_init 18 = .ok (.return_, 1) := by decide +kernel
theorem dX8_add_0 : decode cX8_add 0 = .ok (.aload_n 0, 1) := by decide +kernel
theorem dX8_add_1 : decode cX8_add 1 = .ok (.getfield 15, 3) := by decide +kernel
theorem dX8_add_4 : decode cX8_add 4 = .ok (.ifCond .lt 13, 3) := by decide +kernel
theorem dX8_add_7 : decode cX8_add 7 = .ok (.aload_n 0, 1) := by decide +kernel
theorem dX8_add_8 : decode cX8_add 8 = .ok (.getfield 15, 3) := by decide +kernel
theorem dX8_add_11 : decode cX8_add 11 = .ok (.sipush 200, 3) := by decide +kernel
theorem dX8_add_14 : decode cX8_add 14 = .ok (.if_icmp .lt 4, 3) := by decide +kernel
theorem dX8_add_17 : decode cX8_add 17 = .ok (.return_, 1) := by decide +kernel
theorem dX8_add_18 : decode cX8_add 18 = .ok (.aload_n 0, 1) := by decide +kernel
theorem dX8_add_19 : decode cX8_add 19 = .ok (.getfield 9, 3) := by decide +kernel
theorem dX8_add_22 : decode cX8_add 22 = .ok (.aload_n 0, 1) := by decide +kernel
theorem dX8_add_23 : decode cX8_add 23 = .ok (.getfield 15, 3) := by decide +kernel
theorem dX8_add_26 : decode cX8_add 26 = .ok (.iload_n 1, 1) := by decide +kernel
theorem dX8_add_27 : decode cX8_add 27 = .ok (.iastore, 1) := by decide +kernel
theorem dX8_add_28 : decode cX8_add 28 = .ok (.aload_n 0, 1) := by decide +kernel
theorem dX8_add_29 : decode cX8_add 29 = .ok (.dup, 1) := by decide +kernel
theorem dX8_add_30 : decode cX8_add 30 = .ok (.getfield 15, 3) := by decide +kernel
theorem dX8_add_33 : decode cX8_add 33 = .ok (.iconst 1, 1) := by decide +kernel
theorem dX8_add_34 : decode cX8_add 34 = .ok (.iadd, 1) := by decide +kernel
theorem dX8_add_35 : decode cX8_add 35 = .ok (.putfield 15, 3) := by decide +kernel
theorem dX8_add_38 : decode cX8_add 38 = .ok (.return_, 1) := by decide +kernel
theorem dX9_init_0 : decode cX9_init 0 = .ok (.aload_n 0, 1) := by decide +kernel
theorem dX9_init_1 : decode cX9_init 1 = .ok (.invokespecial 3, 3) := by decide +kernel
theorem dX9_init_4 : decode cX9_init 4 = .ok (.aload_n 0, 1) := by decide +kernel
theorem dX9_init_5 : decode cX9_init 5 = .ok (.new 9, 3) := by decide +kernel
theorem dX9_init_8 : decode cX9_init 8 = .ok (.dup, 1) := by decide +kernel
theorem dX9_init_9 : decode cX9_init 9 = .ok (.invokespecial 11, 3) := by decide +kernel
theorem dX9_init_12 : decode cX9_init 12 = .ok (.putfield 12, 3) := by decide +kernel
theorem dX9_init_15 : decode cX9_init 15 = .ok (.aload_n 0, 1) := by decide +kernel
theorem dX9_init_16 : decode cX9_init 16 = .ok (.new 16, 3) := by decide +kernel
theorem dX9_init_19 : decode cX9_init 19 = .ok (.dup, 1) := by decide +kernel
theorem dX9_init_20 : decode cX9_init 20 = .ok (.invokespecial 18, 3) := by decide +kernel
theorem dX9_init_23 : decode cX9_init 23 = .ok (.putfield 19, 3) := by decide +kernel
theorem dX9_init_26 : decode cX9_init 26 = .ok (.aload_n 0, 1) := by decide +kernel
theorem dX9_init_27 : decode cX9_init 27 = .ok (.new 23, 3) := by decide +kernel
theorem dX9_init_30 : decode cX9_init 30 = .ok (.dup, 1) := by decide +kernel
theorem dX9_init_31 : decode cX9_init 31 = .ok (.invokespecial 25, 3) := by decide +kernel
theorem dX9_init_34 : decode cX9_init 34 = .ok (.putfield 26, 3) := by decide +kernel
theorem dX9_init_37 : decode cX9_init 37 = .ok (.aload_n 0, 1) := by decide +kernel
theorem dX9_init_38 : decode cX9_init 38 = .ok (.new 30, 3) := by decide +kernel
theorem dX9_init_41 : decode cX9_init 41 = .ok (.dup, 1) := by decide +kernel
theorem dX9_init_42 : decode cX9_init 42 = .ok (.invokespecial 32, 3) := by decide +kernel
theorem dX9_init_45 : decode cX9_init 45 = .ok (.putfield 33, 3) := by decide +kernel
theorem dX9_init_48 : decode cX9_init 48 = .ok (.aload_n 0, 1) := by decide +kernel
theorem dX9_init_49 : decode cX9_init 49 = .ok (.new 37, 3) := by decide +kernel
theorem dX9_init_52 : decode cX9_init 52 = .ok (.dup, 1) := by decide +kernel
theorem dX9_init_53 : decode cX9_init 53 = .ok (.invokespecial 39, 3) := by decide +kernel
theorem dX9_init_56 : decode cX9_init 56 = .ok (.putfield 40, 3) := by decide +kernel
theorem dX9_init_59 : decode cX9_init 59 = .ok (.aload_n 0, 1) := by decide +kernel
theorem dX9_init_60 : decode cX9_init 60 = .ok (.new 44, 3) := by decide +kernel
theorem dX9_init_63 : decode cX9_init 63 = .ok (.dup, 1) := by decide +kernel
theorem dX9_init_64 : decode cX9_init 64 = .ok (.invokespecial 46, 3) := by decide +kernel
theorem dX9_init_67 : decode cX9_init 67 = .ok (.putfield 47, 3) := by decide +kernel
theorem dX9_init_70 : decode cX9_init 70 = .ok (.aload_n 0, 1) := by decide +kernel
theorem dX9_init_71 : decode cX9_init 71 = .ok (.new 51, 3) := by decide +kernel
theorem dX9_init_74 : decode cX9_init 74 = .ok (.dup, 1) := by decide +kernel
theorem dX9_init_75 : decode cX9_init 75 = .ok (.invokespecial 53, 3) := by decide +kernel
theorem dX9_init_78 : decode cX9_init 78 = .ok (.putfield 54, 3) := by decide +kernel
theorem dX9_init_81 : decode cX9_init 81 = .ok (.aload_n 0, 1) := by decide +kernel
theorem dX9_init_82 : decode cX9_init 82 = .ok (.new 58, 3) := by decide +kernel
theorem dX9_init_85 : decode cX9_init 85 = .ok (.dup, 1) := by decide +kernel
theorem dX9_init_86 : decode cX9_init 86 = .ok (.invokespecial 60, 3) := by decide +kernel
theorem dX9_init_89 : decode cX9_init 89 = .ok (.putfield 61, 3) := by decide +kernel
theorem dX9_init_92 : decode cX9_init 92 = .ok (.aload_n 0, 1) := by decide +kernel
theorem dX9_init_93 : decode cX9_init 93 = .ok (.new 65, 3) := by decide +kernel
theorem dX9_init_96 : decode cX9_init 96 = .ok (.dup, 1) := by decide +kernel
theorem dX9_init_97 : decode cX9_init 97 = .ok (.invokespecial 67, 3) := by decide +kernel
theorem dX9_init_100 : decode cX9_init 100 = .ok (.putfield 68, 3) := by decide +kernel
theorem dX9_init_103 : decode cX9_init 103 = .ok (.aload_n 0, 1) := by decide +kernel
theorem dX9_init_104 : decode cX9_init 104 = .ok (.iconst 4, 1) := by decide +kernel
theorem dX9_init_105 : decode cX9_init 105 = .ok (.newarray .int, 2) := by decide +kernel
theorem dX9_init_107 : decode cX9_init 107 = .ok (.dup, 1) := by decide +kernel
theorem dX9_init_108 : decode cX9_init 108 = .ok (.iconst 0, 1) := by decide +kernel
theorem dX9_init_109 : decode cX9_init 109 = .ok (.iconst 0, 1) := by decide +kernel
theorem dX9_init_110 : decode cX9_init 110 = .ok (.iastore, 1) := by decide +kernel
theorem dX9_init_111 : decode cX9_init 111 = .ok (.dup, 1) := by decide +kernel
theorem dX9_init_112 : decode cX9_init 112 = .ok (.iconst 1, 1) := by decide +kernel
theorem dX9_init_113 : decode cX9_init 113 = .ok (.iconst 3, 1) := by decide +kernel
theorem dX9_init_114 : decode cX9_init 114 = .ok (.iastore, 1) := by decide +kernel
theorem dX9_init_115 : decode cX9_init 115 = .ok (.dup, 1) := by decide +kernel
theorem dX9_init_116 : decode cX9_init 116 = .ok (.iconst 2, 1) := by decide +kernel
theorem dX9_init_117 : decode cX9_init 117 = .ok (.iconst 2, 1) := by decide +kernel
theorem dX9_init_118 : decode cX9_init 118 = .ok (.iastore, 1) := by decide +kernel
theorem dX9_init_119 : decode cX9_init 119 = .ok (.dup, 1) := by decide +kernel
theorem dX9_init_120 : decode cX9_init 120 = .ok (.iconst 3, 1) := by decide +kernel
theorem dX9_init_121 : decode cX9_init 121 = .ok (.iconst 2, 1) := by decide +kernel
theorem dX9_init_122 : decode cX9_init 122 = .ok (.iastore, 1) := by decide +kernel
theorem dX9_init_123 : decode cX9_init 123 = .ok (.putfield 72, 3) := by decide +kernel
theorem dX9_init_126 : decode cX9_init 126 = .ok (.aload_n 0, 1) := by decide +kernel
theorem dX9_init_127 : decode cX9_init 127 = .ok (.iconst 0, 1) := by decide +kernel
theorem dX9_init_128 : decode cX9_init 128 = .ok (.putfield 76, 3) := by decide +kernel
theorem dX9_init_131 : decode cX9_init 131 = .ok (.aload_n 0, 1) := by decide +kernel
theorem dX9_init_132 : decode cX9_init 132 = .ok (.iconst 0, 1) := by decide +kernel
theorem dX9_init_133 : decode cX9_init 133 = .ok (.putfield 80, 3) := by decide +kernel
theorem dX9_init_136 : decode cX9_init 136 = .ok (.aload_n 0, 1) := by decide +kernel
theorem dX9_init_137 : decode cX9_init 137 = .ok (.iconst 0, 1) := by decide +kernel
theorem dX9_init_138 : decode cX9_init 138 = .ok (.putfield 83, 3) := by decide +kernel
theorem dX9_init_141 : decode cX9_init 141 = .ok (.aload_n 0, 1) := by decide +kernel
theorem dX9_init_142 : decode cX9_init 142 = .ok (.iconst 0, 1) := by decide +kernel
theorem dX9_init_143 : decode cX9_init 143 = .ok (.putfield 87, 3) := by decide +kernel
theorem dX9_init_146 : decode cX9_init 146 = .ok (.aload_n 0, 1) := by decide +kernel
theorem dX9_init_147 : decode cX9_init 147 = .ok (.iconst 0, 1) := by decide +kernel
theorem dX9_init_148 : decode cX9_init 148 = .ok (.putfield 90, 3) := by decide +kernel
theorem dX9_init_151 : decode cX9_init 151 = .ok (.aload_n 0, 1) := by decide +kernel
theorem dX9_init_152 : decode cX9_init 152 = .ok (.iconst 0, 1) := by decide +kernel
theorem dX9_init_153 : decode cX9_init 153 = .ok (.putfield 93, 3) := by decide +kernel
theorem dX9_init_156 : decode cX9_init 156 = .ok (.aload_n 0, 1) := by decide +kernel
theorem dX9_init_157 : decode cX9_init 157 = .ok (.iconst 0, 1) := by decide +kernel
theorem dX9_init_158 : decode cX9_init 158 = .ok (.putfield 96, 3) := by decide +kernel
theorem dX9_init_161 : decode cX9_init 161 = .ok (.return_, 1) := by decide +kernel
theorem dX9_type_0 : decode cX9_type 0 = .ok (.iload_n 1, 1) := by decide +kernel
theorem dX9_type_1 : decode cX9_type 1 = .ok (.invokestatic 99, 3) := by decide +kernel
theorem dX9_type_4 : decode cX9_type 4 = .ok (.ifCond .eq 6, 3) := by decide +kernel
theorem dX9_type_7 : decode cX9_type 7 = .ok (.bipush (-2), 2) := by decide +kernel
theorem dX9_type_9 : decode cX9_type 9 = .ok (.ireturn, 1) := by decide +kernel
theorem dX9_type_10 : decode cX9_type 10 = .ok (.aload_n 0, 1) := by decide +kernel
theorem dX9_type_11 : decode cX9_type 11 = .ok (.getfield 12, 3) := by decide +kernel
theorem dX9_type_14 : decode cX9_type 14 = .ok (.getfield 103, 3) := by decide +kernel
theorem dX9_type_17 : decode cX9_type 17 = .ok (.sipush 200, 3) := by decide +kernel
theorem dX9_type_20 : decode cX9_type 20 = .ok (.if_icmp .lt 6, 3) := by decide +kernel
theorem dX9_type_23 : decode cX9_type 23 = .ok (.bipush (-4), 2) := by decide +kernel
theorem dX9_type_25 : decode cX9_type 25 = .ok (.ireturn, 1) := by decide +kernel
theorem dX9_type_26 : decode cX9_type 26 = .ok (.aload_n 0, 1) := by decide +kernel
theorem dX9_type_27 : decode cX9_type 27 = .ok (.getfield 12, 3) := by decide +kernel
theorem dX9_type_30 : decode cX9_type 30 = .ok (.iload_n 1, 1) := by decide +kernel
theorem dX9_type_31 : decode cX9_type 31 = .ok (.invokevirtual 106, 3) := by decide +kernel
theorem dX9_type_34 : decode cX9_type 34 = .ok (.aload_n 0, 1) := by decide +kernel
theorem dX9_type_35 : decode cX9_type 35 = .ok (.invokevirtual 110, 3) := by decide +kernel
theorem dX9_type_38 : decode cX9_type 38 = .ok (.aload_n 0, 1) := by decide +kernel
theorem dX9_type_39 : decode cX9_type 39 = .ok (.getfield 12, 3) := by decide +kernel
theorem dX9_type_42 : decode cX9_type 42 = .ok (.getfield 103, 3) := by decide +kernel
theorem dX9_type_45 : decode cX9_type 45 = .ok (.ireturn, 1) := by decide +kernel
theorem dX9_wipe_0 : decode cX9_wipe 0 = .ok (.aload_n 0, 1) := by decide +kernel
theorem dX9_wipe_1 : decode cX9_wipe 1 = .ok (.getfield 12, 3) := by decide +kernel
theorem dX9_wipe_4 : decode cX9_wipe 4 = .ok (.getfield 103, 3) := by decide +kernel
theorem dX9_wipe_7 : decode cX9_wipe 7 = .ok (.istore_n 1, 1) := by decide +kernel
theorem dX9_wipe_8 : decode cX9_wipe 8 = .ok (.aload_n 0, 1) := by decide +kernel
theorem dX9_wipe_9 : decode cX9_wipe 9 = .ok (.getfield 12, 3) := by decide +kernel
theorem dX9_wipe_12 : decode cX9_wipe 12 = .ok (.iconst 0, 1) := by decide +kernel
theorem dX9_wipe_13 : decode cX9_wipe 13 = .ok (.putfield 103, 3) := by decide +kernel
theorem dX9_wipe_16 : decode cX9_wipe 16 = .ok (.aload_n 0, 1) := by decide +kernel
theorem dX9_wipe_17 : decode cX9_wipe 17 = .ok (.invokevirtual 110, 3) := by decide +kernel
theorem dX9_wipe_20 : decode cX9_wipe 20 = .ok (.iload_n 1, 1) := by decide +kernel
theorem dX9_wipe_21 : decode cX9_wipe 21 = .ok (.ireturn, 1) := by decide +kernel
theorem dX9_undo_0 : decode cX9_undo 0 = .ok (.aload_n 0, 1) := by decide +kernel
theorem dX9_undo_1 : decode cX9_undo 1 = .ok (.getfield 12, 3) := by decide +kernel
theorem dX9_undo_4 : decode cX9_undo 4 = .ok (.getfield 103, 3) := by decide +kernel
theorem dX9_undo_7 : decode cX9_undo 7 = .ok (.ifCond .gt 6, 3) := by decide +kernel
theorem dX9_undo_10 : decode cX9_undo 10 = .ok (.bipush (-3), 2) := by decide +kernel
theorem dX9_undo_12 : decode cX9_undo 12 = .ok (.ireturn, 1) := by decide +kernel
theorem dX9_undo_13 : decode cX9_undo 13 = .ok (.aload_n 0, 1) := by decide +kernel
theorem dX9_undo_14 : decode cX9_undo 14 = .ok (.getfield 12, 3) := by decide +kernel
theorem dX9_undo_17 : decode cX9_undo 17 = .ok (.dup, 1) := by decide +kernel
theorem dX9_undo_18 : decode cX9_undo 18 = .ok (.getfield 103, 3) := by decide +kernel
theorem dX9_undo_21 : decode cX9_undo 21 = .ok (.iconst 1, 1) := by decide +kernel
theorem dX9_undo_22 : decode cX9_undo 22 = .ok (.isub, 1) := by decide +kernel
theorem dX9_undo_23 : decode cX9_undo 23 = .ok (.putfield 103, 3) := by decide +kernel
theorem dX9_undo_26 : decode cX9_undo 26 = .ok (.aload_n 0, 1) := by decide +kernel
theorem dX9_undo_27 : decode cX9_undo 27 = .ok (.invokevirtual 110, 3) := by decide +kernel
theorem dX9_undo_30 : decode cX9_undo 30 = .ok (.aload_n 0, 1) := by decide +kernel
theorem dX9_undo_31 : decode cX9_undo 31 = .ok (.getfield 12, 3) := by decide +kernel
theorem dX9_undo_34 : decode cX9_undo 34 = .ok (.getfield 103, 3) := by decide +kernel
theorem dX9_undo_37 : decode cX9_undo 37 = .ok (.ireturn, 1) := by decide +kernel
theorem dX9_fault_0 : decode cX9_fault 0 = .ok (.iload_n 1, 1) := by decide +kernel
theorem dX9_fault_1 : decode cX9_fault 1 = .ok (.ifCond .lt 8, 3) := by decide +kernel
theorem dX9_fault_4 : decode cX9_fault 4 = .ok (.iload_n 1, 1) := by decide +kernel
theorem dX9_fault_5 : decode cX9_fault 5 = .ok (.iconst 2, 1) := by decide +kernel
theorem dX9_fault_6 : decode cX9_fault 6 = .ok (.if_icmp .le 6, 3) := by decide +kernel
theorem dX9_fault_9 : decode cX9_fault 9 = .ok (.bipush (-2), 2) := by decide +kernel
theorem dX9_fault_11 : decode cX9_fault 11 = .ok (.ireturn, 1) := by decide +kernel
theorem dX9_fault_12 : decode cX9_fault 12 = .ok (.aload_n 0, 1) := by decide +kernel
theorem dX9_fault_13 : decode cX9_fault 13 = .ok (.invokevirtual 113, 3) := by decide +kernel
theorem dX9_fault_16 : decode cX9_fault 16 = .ok (.iload_n 1, 1) := by decide +kernel
theorem dX9_fault_17 : decode cX9_fault 17 = .ok (.ifCond .ne 11, 3) := by decide +kernel
theorem dX9_fault_20 : decode cX9_fault 20 = .ok (.aload_n 0, 1) := by decide +kernel
theorem dX9_fault_21 : decode cX9_fault 21 = .ok (.getfield 19, 3) := by decide +kernel
theorem dX9_fault_24 : decode cX9_fault 24 = .ok (.getfield 116, 3) := by decide +kernel
theorem dX9_fault_27 : decode cX9_fault 27 = .ok (.ireturn, 1) := by decide +kernel
theorem dX9_fault_28 : decode cX9_fault 28 = .ok (.iload_n 1, 1) := by decide +kernel
theorem dX9_fault_29 : decode cX9_fault 29 = .ok (.iconst 1, 1) := by decide +kernel
theorem dX9_fault_30 : decode cX9_fault 30 = .ok (.if_icmp .ne 13, 3) := by decide +kernel
theorem dX9_fault_33 : decode cX9_fault 33 = .ok (.aload_n 0, 1) := by decide +kernel
theorem dX9_fault_34 : decode cX9_fault 34 = .ok (.getfield 19, 3) := by decide +kernel
theorem dX9_fault_37 : decode cX9_fault 37 = .ok (.getfield 119, 3) := by decide +kernel
theorem dX9_fault_40 : decode cX9_fault 40 = .ok (.goto 10, 3) := by decide +kernel
theorem dX9_fault_43 : decode cX9_fault 43 = .ok (.aload_n 0, 1) := by decide +kernel
theorem dX9_fault_44 : decode cX9_fault 44 = .ok (.getfield 19, 3) := by decide +kernel
theorem dX9_fault_47 : decode cX9_fault 47 = .ok (.getfield 122, 3) := by decide +kernel
theorem dX9_fault_50 : decode cX9_fault 50 = .ok (.ireturn, 1) := by decide +kernel
theorem dX9_set_0 : decode cX9_set 0 = .ok (.iload_n 1, 1) := by decide +kernel
theorem dX9_set_1 : decode cX9_set 1 = .ok (.ifCond .lt 8, 3) := by decide +kernel
theorem dX9_set_4 : decode cX9_set 4 = .ok (.iload_n 1, 1) := by decide +kernel
theorem dX9_set_5 : decode cX9_set 5 = .ok (.iconst 3, 1) := by decide +kernel
theorem dX9_set_6 : decode cX9_set 6 = .ok (.if_icmp .le 6, 3) := by decide +kernel
theorem dX9_set_9 : decode cX9_set 9 = .ok (.bipush (-2), 2) := by decide +kernel
theorem dX9_set_11 : decode cX9_set 11 = .ok (.ireturn, 1) := by decide +kernel
theorem dX9_set_12 : decode cX9_set 12 = .ok (.iload_n 2, 1) := by decide +kernel
theorem dX9_set_13 : decode cX9_set 13 = .ok (.getstatic 125, 3) := by decide +kernel
theorem dX9_set_16 : decode cX9_set 16 = .ok (.iload_n 1, 1) := by decide +kernel
theorem dX9_set_17 : decode cX9_set 17 = .ok (.iaload, 1) := by decide +kernel
theorem dX9_set_18 : decode cX9_set 18 = .ok (.if_icmp .lt 12, 3) := by decide +kernel
theorem dX9_set_21 : decode cX9_set 21 = .ok (.iload_n 2, 1) := by decide +kernel
theorem dX9_set_22 : decode cX9_set 22 = .ok (.getstatic 128, 3) := by decide +kernel
theorem dX9_set_25 : decode cX9_set 25 = .ok (.iload_n 1, 1) := by decide +kernel
theorem dX9_set_26 : decode cX9_set 26 = .ok (.iaload, 1) := by decide +kernel
theorem dX9_set_27 : decode cX9_set 27 = .ok (.if_icmp .le 6, 3) := by decide +kernel
theorem dX9_set_30 : decode cX9_set 30 = .ok (.bipush (-2), 2) := by decide +kernel
theorem dX9_set_32 : decode cX9_set 32 = .ok (.ireturn, 1) := by decide +kernel
theorem dX9_set_33 : decode cX9_set 33 = .ok (.aload_n 0, 1) := by decide +kernel
theorem dX9_set_34 : decode cX9_set 34 = .ok (.getfield 72, 3) := by decide +kernel
theorem dX9_set_37 : decode cX9_set 37 = .ok (.iload_n 1, 1) := by decide +kernel
theorem dX9_set_38 : decode cX9_set 38 = .ok (.iaload, 1) := by decide +kernel
theorem dX9_set_39 : decode cX9_set 39 = .ok (.istore_n 3, 1) := by decide +kernel
theorem dX9_set_40 : decode cX9_set 40 = .ok (.aload_n 0, 1) := by decide +kernel
theorem dX9_set_41 : decode cX9_set 41 = .ok (.getfield 72, 3) := by decide +kernel
theorem dX9_set_44 : decode cX9_set 44 = .ok (.iload_n 1, 1) := by decide +kernel
theorem dX9_set_45 : decode cX9_set 45 = .ok (.iload_n 2, 1) := by decide +kernel
theorem dX9_set_46 : decode cX9_set 46 = .ok (.iastore, 1) := by decide +kernel
theorem dX9_set_47 : decode cX9_set 47 = .ok (.iload_n 1, 1) := by decide +kernel
theorem dX9_set_48 : decode cX9_set 48 = .ok (.iconst 2, 1) := by decide +kernel
theorem dX9_set_49 : decode cX9_set 49 = .ok (.if_icmp .ne 11, 3) := by decide +kernel
theorem dX9_set_52 : decode cX9_set 52 = .ok (.aload_n 0, 1) := by decide +kernel
theorem dX9_set_53 : decode cX9_set 53 = .ok (.iconst 0, 1) := by decide +kernel
theorem dX9_set_54 : decode cX9_set 54 = .ok (.putfield 87, 3) := by decide +kernel
theorem dX9_set_57 : decode cX9_set 57 = .ok (.goto 26, 3) := by decide +kernel
theorem dX9_set_60 : decode cX9_set 60 = .ok (.iload_n 1, 1) := by decide +kernel
theorem dX9_set_61 : decode cX9_set 61 = .ok (.iconst 3, 1) := by decide +kernel
theorem dX9_set_62 : decode cX9_set 62 = .ok (.if_icmp .ne 11, 3) := by decide +kernel
theorem dX9_set_65 : decode cX9_set 65 = .ok (.aload_n 0, 1) := by decide +kernel
theorem dX9_set_66 : decode cX9_set 66 = .ok (.iconst 0, 1) := by decide +kernel
theorem dX9_set_67 : decode cX9_set 67 = .ok (.putfield 96, 3) := by decide +kernel
theorem dX9_set_70 : decode cX9_set 70 = .ok (.goto 13, 3) := by decide +kernel
theorem dX9_set_73 : decode cX9_set 73 = .ok (.aload_n 0, 1) := by decide +kernel
theorem dX9_set_74 : decode cX9_set 74 = .ok (.iconst 0, 1) := by decide +kernel
theorem dX9_set_75 : decode cX9_set 75 = .ok (.putfield 90, 3) := by decide +kernel
theorem dX9_set_78 : decode cX9_set 78 = .ok (.aload_n 0, 1) := by decide +kernel
theorem dX9_set_79 : decode cX9_set 79 = .ok (.iconst 0, 1) := by decide +kernel
theorem dX9_set_80 : decode cX9_set 80 = .ok (.putfield 93, 3) := by decide +kernel
theorem dX9_set_83 : decode cX9_set 83 = .ok (.iload_n 3, 1) := by decide +kernel
theorem dX9_set_84 : decode cX9_set 84 = .ok (.ireturn, 1) := by decide +kernel
theorem dX9_tell_0 : decode cX9_tell 0 = .ok (.iload_n 1, 1) := by decide +kernel
theorem dX9_tell_1 : decode cX9_tell 1 = .ok (.sipush (-4095), 3) := by decide +kernel
theorem dX9_tell_4 : decode cX9_tell 4 = .ok (.iand, 1) := by decide +kernel
theorem dX9_tell_5 : decode cX9_tell 5 = .ok (.ifCond .eq 6, 3) := by decide +kernel
theorem dX9_tell_8 : decode cX9_tell 8 = .ok (.bipush (-2), 2) := by decide +kernel
theorem dX9_tell_10 : decode cX9_tell 10 = .ok (.ireturn, 1) := by decide +kernel
theorem dX9_tell_11 : decode cX9_tell 11 = .ok (.aload_n 0, 1) := by decide +kernel
theorem dX9_tell_12 : decode cX9_tell 12 = .ok (.getfield 76, 3) := by decide +kernel
theorem dX9_tell_15 : decode cX9_tell 15 = .ok (.istore_n 2, 1) := by decide +kernel
theorem dX9_tell_16 : decode cX9_tell 16 = .ok (.aload_n 0, 1) := by decide +kernel
theorem dX9_tell_17 : decode cX9_tell 17 = .ok (.iload_n 1, 1) := by decide +kernel
theorem dX9_tell_18 : decode cX9_tell 18 = .ok (.putfield 76, 3) := by decide +kernel
theorem dX9_tell_21 : decode cX9_tell 21 = .ok (.iload_n 2, 1) := by decide +kernel
theorem dX9_tell_22 : decode cX9_tell 22 = .ok (.ireturn, 1) := by decide +kernel
theorem dX9_read_0 : decode cX9_read 0 = .ok (.iload_n 1, 1) := by decide +kernel
theorem dX9_read_1 : decode cX9_read 1 = .ok (.invokestatic 131, 3) := by decide +kernel
theorem dX9_read_4 : decode cX9_read 4 = .ok (.ifCond .eq 6, 3) := by decide +kernel
theorem dX9_read_7 : decode cX9_read 7 = .ok (.bipush (-2), 2) := by decide +kernel
theorem dX9_read_9 : decode cX9_read 9 = .ok (.ireturn, 1) := by decide +kernel
theorem dX9_read_10 : decode cX9_read 10 = .ok (.aload_n 0, 1) := by decide +kernel
theorem dX9_read_11 : decode cX9_read 11 = .ok (.getfield 68, 3) := by decide +kernel
theorem dX9_read_14 : decode cX9_read 14 = .ok (.iload_n 1, 1) := by decide +kernel
theorem dX9_read_15 : decode cX9_read 15 = .ok (.invokevirtual 134, 3) := by decide +kernel
theorem dX9_read_18 : decode cX9_read 18 = .ok (.ifCond .eq 9, 3) := by decide +kernel
theorem dX9_read_21 : decode cX9_read 21 = .ok (.aload_n 0, 1) := by decide +kernel
theorem dX9_read_22 : decode cX9_read 22 = .ok (.iconst 1, 1) := by decide +kernel
theorem dX9_read_23 : decode cX9_read 23 = .ok (.invokevirtual 137, 3) := by decide +kernel
theorem dX9_read_26 : decode cX9_read 26 = .ok (.ireturn, 1) := by decide +kernel
theorem dX9_read_27 : decode cX9_read 27 = .ok (.aload_n 0, 1) := by decide +kernel
theorem dX9_read_28 : decode cX9_read 28 = .ok (.iload_n 1, 1) := by decide +kernel
theorem dX9_read_29 : decode cX9_read 29 = .ok (.invokevirtual 141, 3) := by decide +kernel
theorem dX9_read_32 : decode cX9_read 32 = .ok (.sipush 200, 3) := by decide +kernel
theorem dX9_read_35 : decode cX9_read 35 = .ok (.aload_n 0, 1) := by decide +kernel
theorem dX9_read_36 : decode cX9_read 36 = .ok (.getfield 12, 3) := by decide +kernel
theorem dX9_read_39 : decode cX9_read 39 = .ok (.getfield 103, 3) := by decide +kernel
theorem dX9_read_42 : decode cX9_read 42 = .ok (.isub, 1) := by decide +kernel
theorem dX9_read_43 : decode cX9_read 43 = .ok (.invokestatic 144, 3) := by decide +kernel
theorem dX9_read_46 : decode cX9_read 46 = .ok (.istore_n 2, 1) := by decide +kernel
theorem dX9_read_47 : decode cX9_read 47 = .ok (.iconst 0, 1) := by decide +kernel
theorem dX9_read_48 : decode cX9_read 48 = .ok (.istore_n 3, 1) := by decide +kernel
theorem dX9_read_49 : decode cX9_read 49 = .ok (.iload_n 3, 1) := by decide +kernel
theorem dX9_read_50 : decode cX9_read 50 = .ok (.iload_n 2, 1) := by decide +kernel
theorem dX9_read_51 : decode cX9_read 51 = .ok (.if_icmp .ge 25, 3) := by decide +kernel
theorem dX9_read_54 : decode cX9_read 54 = .ok (.aload_n 0, 1) := by decide +kernel
theorem dX9_read_55 : decode cX9_read 55 = .ok (.getfield 12, 3) := by decide +kernel
theorem dX9_read_58 : decode cX9_read 58 = .ok (.aload_n 0, 1) := by decide +kernel
theorem dX9_read_59 : decode cX9_read 59 = .ok (.getfield 68, 3) := by decide +kernel
theorem dX9_read_62 : decode cX9_read 62 = .ok (.iload_n 1, 1) := by decide +kernel
theorem dX9_read_63 : decode cX9_read 63 = .ok (.iload_n 3, 1) := by decide +kernel
theorem dX9_read_64 : decode cX9_read 64 = .ok (.invokevirtual 150, 3) := by decide +kernel
theorem dX9_read_67 : decode cX9_read 67 = .ok (.invokevirtual 106, 3) := by decide +kernel
theorem dX9_read_70 : decode cX9_read 70 = .ok (.iinc 3 1, 3) := by decide +kernel
theorem dX9_read_73 : decode cX9_read 73 = .ok (.goto (-24), 3) := by decide +kernel
theorem dX9_read_76 : decode cX9_read 76 = .ok (.aload_n 0, 1) := by decide +kernel
theorem dX9_read_77 : decode cX9_read 77 = .ok (.invokevirtual 110, 3) := by decide +kernel
theorem dX9_read_80 : decode cX9_read 80 = .ok (.iload_n 2, 1) := by decide +kernel
theorem dX9_read_81 : decode cX9_read 81 = .ok (.ireturn, 1) := by decide +kernel
theorem dX9_sentence_0 : decode cX9_sentence 0 = .ok (.aload_n 0, 1) := by decide +kernel
theorem dX9_sentence_1 : decode cX9_sentence 1 = .ok (.invokevirtual 113, 3) := by decide +kernel
theorem dX9_sentence_4 : decode cX9_sentence 4 = .ok (.aload_n 0, 1) := by decide +kernel
theorem dX9_sentence_5 : decode cX9_sentence 5 = .ok (.iload_n 1, 1) := by decide +kernel
theorem dX9_sentence_6 : decode cX9_sentence 6 = .ok (.invokevirtual 153, 3) := by decide +kernel
theorem dX9_sentence_9 : decode cX9_sentence 9 = .ok (.ifCond .ne 12, 3) := by decide +kernel
theorem dX9_sentence_12 : decode cX9_sentence 12 = .ok (.iload_n 2, 1) := by decide +kernel
theorem dX9_sentence_13 : decode cX9_sentence 13 = .ok (.ifCond .lt 8, 3) := by decide +kernel
theorem dX9_sentence_16 : decode cX9_sentence 16 = .ok (.iload_n 2, 1) := by decide +kernel
theorem dX9_sentence_17 : decode cX9_sentence 17 = .ok (.iconst 3, 1) := by decide +kernel
theorem dX9_sentence_18 : decode cX9_sentence 18 = .ok (.if_icmp .le 6, 3) := by decide +kernel
theorem dX9_sentence_21 : decode cX9_sentence 21 = .ok (.bipush (-2), 2) := by decide +kernel
theorem dX9_sentence_23 : decode cX9_sentence 23 = .ok (.ireturn, 1) := by decide +kernel
theorem dX9_sentence_24 : decode cX9_sentence 24 = .ok (.iload_n 2, 1) := by decide +kernel
theorem dX9_sentence_25 : decode cX9_sentence 25 = .ok (.ifCond .ne 13, 3) := by decide +kernel
theorem dX9_sentence_28 : decode cX9_sentence 28 = .ok (.aload_n 0, 1) := by decide +kernel
theorem dX9_sentence_29 : decode cX9_sentence 29 = .ok (.getfield 26, 3) := by decide +kernel
theorem dX9_sentence_32 : decode cX9_sentence 32 = .ok (.getfield 156, 3) := by decide +kernel
theorem dX9_sentence_35 : decode cX9_sentence 35 = .ok (.iload_n 1, 1) := by decide +kernel
theorem dX9_sentence_36 : decode cX9_sentence 36 = .ok (.iaload, 1) := by decide +kernel
theorem dX9_sentence_37 : decode cX9_sentence 37 = .ok (.ireturn, 1) := by decide +kernel
theorem dX9_sentence_38 : decode cX9_sentence 38 = .ok (.iload_n 2, 1) := by decide +kernel
theorem dX9_sentence_39 : decode cX9_sentence 39 = .ok (.iconst 1, 1) := by decide +kernel
theorem dX9_sentence_40 : decode cX9_sentence 40 = .ok (.if_icmp .ne 12, 3) := by decide +kernel
theorem dX9_sentence_43 : decode cX9_sentence 43 = .ok (.aload_n 0, 1) := by decide +kernel
theorem dX9_sentence_44 : decode cX9_sentence 44 = .ok (.getfield 26, 3) := by decide +kernel
theorem dX9_sentence_47 : decode cX9_sentence 47 = .ok (.iload_n 1, 1) := by decide +kernel
theorem dX9_sentence_48 : decode cX9_sentence 48 = .ok (.invokevirtual 159, 3) := by decide +kernel
theorem dX9_sentence_51 : decode cX9_sentence 51 = .ok (.ireturn, 1) := by decide +kernel
theorem dX9_sentence_52 : decode cX9_sentence 52 = .ok (.iload_n 2, 1) := by decide +kernel
theorem dX9_sentence_53 : decode cX9_sentence 53 = .ok (.iconst 2, 1) := by decide +kernel
theorem dX9_sentence_54 : decode cX9_sentence 54 = .ok (.if_icmp .ne 14, 3) := by decide +kernel
theorem dX9_sentence_57 : decode cX9_sentence 57 = .ok (.aload_n 0, 1) := by decide +kernel
theorem dX9_sentence_58 : decode cX9_sentence 58 = .ok (.getfield 26, 3) := by decide +kernel
theorem dX9_sentence_61 : decode cX9_sentence 61 = .ok (.iload_n 1, 1) := by decide +kernel
theorem dX9_sentence_62 : decode cX9_sentence 62 = .ok (.invokevirtual 162, 3) := by decide +kernel
theorem dX9_sentence_65 : decode cX9_sentence 65 = .ok (.goto 12, 3) := by decide +kernel
theorem dX9_sentence_68 : decode cX9_sentence 68 = .ok (.aload_n 0, 1) := by decide +kernel
theorem dX9_sentence_69 : decode cX9_sentence 69 = .ok (.getfield 26, 3) := by decide +kernel
theorem dX9_sentence_72 : decode cX9_sentence 72 = .ok (.getfield 165, 3) := by decide +kernel
theorem dX9_sentence_75 : decode cX9_sentence 75 = .ok (.iload_n 1, 1) := by decide +kernel
theorem dX9_sentence_76 : decode cX9_sentence 76 = .ok (.iaload, 1) := by decide +kernel
theorem dX9_sentence_77 : decode cX9_sentence 77 = .ok (.ireturn, 1) := by decide +kernel
theorem dX9_word_0 : decode cX9_word 0 = .ok (.aload_n 0, 1) := by decide +kernel
theorem dX9_word_1 : decode cX9_word 1 = .ok (.invokevirtual 113, 3) := by decide +kernel
theorem dX9_word_4 : decode cX9_word 4 = .ok (.aload_n 0, 1) := by decide +kernel
theorem dX9_word_5 : decode cX9_word 5 = .ok (.iload_n 1, 1) := by decide +kernel
theorem dX9_word_6 : decode cX9_word 6 = .ok (.invokevirtual 153, 3) := by decide +kernel
theorem dX9_word_9 : decode cX9_word 9 = .ok (.ifCond .eq 6, 3) := by decide +kernel
theorem dX9_word_12 : decode cX9_word 12 = .ok (.bipush (-2), 2) := by decide +kernel
theorem dX9_word_14 : decode cX9_word 14 = .ok (.ireturn, 1) := by decide +kernel
theorem dX9_word_15 : decode cX9_word 15 = .ok (.iload_n 2, 1) := by decide +kernel
theorem dX9_word_16 : decode cX9_word 16 = .ok (.ifCond .lt 16, 3) := by decide +kernel
theorem dX9_word_19 : decode cX9_word 19 = .ok (.iload_n 2, 1) := by decide +kernel
theorem dX9_word_20 : decode cX9_word 20 = .ok (.aload_n 0, 1) := by decide +kernel
theorem dX9_word_21 : decode cX9_word 21 = .ok (.getfield 26, 3) := by decide +kernel
theorem dX9_word_24 : decode cX9_word 24 = .ok (.getfield 156, 3) := by decide +kernel
theorem dX9_word_27 : decode cX9_word 27 = .ok (.iload_n 1, 1) := by decide +kernel
theorem dX9_word_28 : decode cX9_word 28 = .ok (.iaload, 1) := by decide +kernel
theorem dX9_word_29 : decode cX9_word 29 = .ok (.if_icmp .lt 6, 3) := by decide +kernel
theorem dX9_word_32 : decode cX9_word 32 = .ok (.bipush (-2), 2) := by decide +kernel
theorem dX9_word_34 : decode cX9_word 34 = .ok (.ireturn, 1) := by decide +kernel
theorem dX9_word_35 : decode cX9_word 35 = .ok (.aload_n 0, 1) := by decide +kernel
theorem dX9_word_36 : decode cX9_word 36 = .ok (.getfield 26, 3) := by decide +kernel
theorem dX9_word_39 : decode cX9_word 39 = .ok (.getfield 168, 3) := by decide +kernel
theorem dX9_word_42 : decode cX9_word 42 = .ok (.iload_n 1, 1) := by decide +kernel
theorem dX9_word_43 : decode cX9_word 43 = .ok (.aaload, 1) := by decide +kernel
theorem dX9_word_44 : decode cX9_word 44 = .ok (.iload_n 2, 1) := by decide +kernel
theorem dX9_word_45 : decode cX9_word 45 = .ok (.iaload, 1) := by decide +kernel
theorem dX9_word_46 : decode cX9_word 46 = .ok (.ireturn, 1) := by decide +kernel
theorem dX9_stem_0 : decode cX9_stem 0 = .ok (.aload_n 0, 1) := by decide +kernel
theorem dX9_stem_1 : decode cX9_stem 1 = .ok (.invokevirtual 113, 3) := by decide +kernel
theorem dX9_stem_4 : decode cX9_stem 4 = .ok (.aload_n 0, 1) := by decide +kernel
theorem dX9_stem_5 : decode cX9_stem 5 = .ok (.iload_n 1, 1) := by decide +kernel
theorem dX9_stem_6 : decode cX9_stem 6 = .ok (.invokevirtual 172, 3) := by decide +kernel
theorem dX9_stem_9 : decode cX9_stem 9 = .ok (.ifCond .ne 12, 3) := by decide +kernel
theorem dX9_stem_12 : decode cX9_stem 12 = .ok (.iload_n 2, 1) := by decide +kernel
theorem dX9_stem_13 : decode cX9_stem 13 = .ok (.ifCond .lt 8, 3) := by decide +kernel
theorem dX9_stem_16 : decode cX9_stem 16 = .ok (.iload_n 2, 1) := by decide +kernel
theorem dX9_stem_17 : decode cX9_stem 17 = .ok (.iconst 3, 1) := by decide +kernel
theorem dX9_stem_18 : decode cX9_stem 18 = .ok (.if_icmp .le 6, 3) := by decide +kernel
theorem dX9_stem_21 : decode cX9_stem 21 = .ok (.bipush (-2), 2) := by decide +kernel
theorem dX9_stem_23 : decode cX9_stem 23 = .ok (.ireturn, 1) := by decide +kernel
theorem dX9_stem_24 : decode cX9_stem 24 = .ok (.iload_n 2, 1) := by decide +kernel
theorem dX9_stem_25 : decode cX9_stem 25 = .ok (.ifCond .ne 13, 3) := by decide +kernel
theorem dX9_stem_28 : decode cX9_stem 28 = .ok (.aload_n 0, 1) := by decide +kernel
theorem dX9_stem_29 : decode cX9_stem 29 = .ok (.getfield 26, 3) := by decide +kernel
theorem dX9_stem_32 : decode cX9_stem 32 = .ok (.getfield 175, 3) := by decide +kernel
theorem dX9_stem_35 : decode cX9_stem 35 = .ok (.iload_n 1, 1) := by decide +kernel
theorem dX9_stem_36 : decode cX9_stem 36 = .ok (.iaload, 1) := by decide +kernel
theorem dX9_stem_37 : decode cX9_stem 37 = .ok (.ireturn, 1) := by decide +kernel
theorem dX9_stem_38 : decode cX9_stem 38 = .ok (.iload_n 2, 1) := by decide +kernel
theorem dX9_stem_39 : decode cX9_stem 39 = .ok (.iconst 1, 1) := by decide +kernel
theorem dX9_stem_40 : decode cX9_stem 40 = .ok (.if_icmp .ne 13, 3) := by decide +kernel
theorem dX9_stem_43 : decode cX9_stem 43 = .ok (.aload_n 0, 1) := by decide +kernel
theorem dX9_stem_44 : decode cX9_stem 44 = .ok (.getfield 26, 3) := by decide +kernel
theorem dX9_stem_47 : decode cX9_stem 47 = .ok (.getfield 178, 3) := by decide +kernel
theorem dX9_stem_50 : decode cX9_stem 50 = .ok (.iload_n 1, 1) := by decide +kernel
theorem dX9_stem_51 : decode cX9_stem 51 = .ok (.iaload, 1) := by decide +kernel
theorem dX9_stem_52 : decode cX9_stem 52 = .ok (.ireturn, 1) := by decide +kernel
theorem dX9_stem_53 : decode cX9_stem 53 = .ok (.iload_n 2, 1) := by decide +kernel
theorem dX9_stem_54 : decode cX9_stem 54 = .ok (.iconst 2, 1) := by decide +kernel
theorem dX9_stem_55 : decode cX9_stem 55 = .ok (.if_icmp .ne 15, 3) := by decide +kernel
theorem dX9_stem_58 : decode cX9_stem 58 = .ok (.aload_n 0, 1) := by decide +kernel
theorem dX9_stem_59 : decode cX9_stem 59 = .ok (.getfield 26, 3) := by decide +kernel
theorem dX9_stem_62 : decode cX9_stem 62 = .ok (.getfield 181, 3) := by decide +kernel
theorem dX9_stem_65 : decode cX9_stem 65 = .ok (.iload_n 1, 1) := by decide +kernel
theorem dX9_stem_66 : decode cX9_stem 66 = .ok (.iaload, 1) := by decide +kernel
theorem dX9_stem_67 : decode cX9_stem 67 = .ok (.goto 12, 3) := by decide +kernel
theorem dX9_stem_70 : decode cX9_stem 70 = .ok (.aload_n 0, 1) := by decide +kernel
theorem dX9_stem_71 : decode cX9_stem 71 = .ok (.getfield 26, 3) := by decide +kernel
theorem dX9_stem_74 : decode cX9_stem 74 = .ok (.getfield 184, 3) := by decide +kernel
theorem dX9_stem_77 : decode cX9_stem 77 = .ok (.iload_n 1, 1) := by decide +kernel
theorem dX9_stem_78 : decode cX9_stem 78 = .ok (.iaload, 1) := by decide +kernel
theorem dX9_stem_79 : decode cX9_stem 79 = .ok (.ireturn, 1) := by decide +kernel
theorem dX9_letter_0 : decode cX9_letter 0 = .ok (.aload_n 0, 1) := by decide +kernel
theorem dX9_letter_1 : decode cX9_letter 1 = .ok (.invokevirtual 113, 3) := by decide +kernel
theorem dX9_letter_4 : decode cX9_letter 4 = .ok (.aload_n 0, 1) := by decide +kernel
theorem dX9_letter_5 : decode cX9_letter 5 = .ok (.iload_n 1, 1) := by decide +kernel
theorem dX9_letter_6 : decode cX9_letter 6 = .ok (.invokevirtual 172, 3) := by decide +kernel
theorem dX9_letter_9 : decode cX9_letter 9 = .ok (.ifCond .eq 6, 3) := by decide +kernel
theorem dX9_letter_12 : decode cX9_letter 12 = .ok (.bipush (-2), 2) := by decide +kernel
theorem dX9_letter_14 : decode cX9_letter 14 = .ok (.ireturn, 1) := by decide +kernel
theorem dX9_letter_15 : decode cX9_letter 15 = .ok (.iload_n 2, 1) := by decide +kernel
theorem dX9_letter_16 : decode cX9_letter 16 = .ok (.ifCond .lt 16, 3) := by decide +kernel
theorem dX9_letter_19 : decode cX9_letter 19 = .ok (.iload_n 2, 1) := by decide +kernel
theorem dX9_letter_20 : decode cX9_letter 20 = .ok (.aload_n 0, 1) := by decide +kernel
theorem dX9_letter_21 : decode cX9_letter 21 = .ok (.getfield 26, 3) := by decide +kernel
theorem dX9_letter_24 : decode cX9_letter 24 = .ok (.getfield 175, 3) := by decide +kernel
theorem dX9_letter_27 : decode cX9_letter 27 = .ok (.iload_n 1, 1) := by decide +kernel
theorem dX9_letter_28 : decode cX9_letter 28 = .ok (.iaload, 1) := by decide +kernel
theorem dX9_letter_29 : decode cX9_letter 29 = .ok (.if_icmp .lt 6, 3) := by decide +kernel
theorem dX9_letter_32 : decode cX9_letter 32 = .ok (.bipush (-2), 2) := by decide +kernel
theorem dX9_letter_34 : decode cX9_letter 34 = .ok (.ireturn, 1) := by decide +kernel
theorem dX9_letter_35 : decode cX9_letter 35 = .ok (.aload_n 0, 1) := by decide +kernel
theorem dX9_letter_36 : decode cX9_letter 36 = .ok (.getfield 26, 3) := by decide +kernel
theorem dX9_letter_39 : decode cX9_letter 39 = .ok (.iload_n 1, 1) := by decide +kernel
theorem dX9_letter_40 : decode cX9_letter 40 = .ok (.iload_n 2, 1) := by decide +kernel
theorem dX9_letter_41 : decode cX9_letter 41 = .ok (.invokevirtual 187, 3) := by decide +kernel
theorem dX9_letter_44 : decode cX9_letter 44 = .ok (.ireturn, 1) := by decide +kernel
theorem dX9_chains_0 : decode cX9_chains 0 = .ok (.aload_n 0, 1) := by decide +kernel
theorem dX9_chains_1 : decode cX9_chains 1 = .ok (.invokevirtual 113, 3) := by decide +kernel
theorem dX9_chains_4 : decode cX9_chains 4 = .ok (.aload_n 0, 1) := by decide +kernel
theorem dX9_chains_5 : decode cX9_chains 5 = .ok (.invokevirtual 190, 3) := by decide +kernel
theorem dX9_chains_8 : decode cX9_chains 8 = .ok (.aload_n 0, 1) := by decide +kernel
theorem dX9_chains_9 : decode cX9_chains 9 = .ok (.getfield 33, 3) := by decide +kernel
theorem dX9_chains_12 : decode cX9_chains 12 = .ok (.getfield 193, 3) := by decide +kernel
theorem dX9_chains_15 : decode cX9_chains 15 = .ok (.ireturn, 1) := by decide +kernel
theorem dX9_chain_0 : decode cX9_chain 0 = .ok (.iload_n 1, 1) := by decide +kernel
theorem dX9_chain_1 : decode cX9_chain 1 = .ok (.ifCond .lt 18, 3) := by decide +kernel
theorem dX9_chain_4 : decode cX9_chain 4 = .ok (.iload_n 1, 1) := by decide +kernel
theorem dX9_chain_5 : decode cX9_chain 5 = .ok (.bipush 100, 2) := by decide +kernel
theorem dX9_chain_7 : decode cX9_chain 7 = .ok (.if_icmp .ge 12, 3) := by decide +kernel
theorem dX9_chain_10 : decode cX9_chain 10 = .ok (.iload_n 2, 1) := by decide +kernel
theorem dX9_chain_11 : decode cX9_chain 11 = .ok (.ifCond .lt 8, 3) := by decide +kernel
theorem dX9_chain_14 : decode cX9_chain 14 = .ok (.iload_n 2, 1) := by decide +kernel
theorem dX9_chain_15 : decode cX9_chain 15 = .ok (.iconst 4, 1) := by decide +kernel
theorem dX9_chain_16 : decode cX9_chain 16 = .ok (.if_icmp .le 6, 3) := by decide +kernel
theorem dX9_chain_19 : decode cX9_chain 19 = .ok (.bipush (-2), 2) := by decide +kernel
theorem dX9_chain_21 : decode cX9_chain 21 = .ok (.ireturn, 1) := by decide +kernel
theorem dX9_chain_22 : decode cX9_chain 22 = .ok (.aload_n 0, 1) := by decide +kernel
theorem dX9_chain_23 : decode cX9_chain 23 = .ok (.invokevirtual 113, 3) := by decide +kernel
theorem dX9_chain_26 : decode cX9_chain 26 = .ok (.aload_n 0, 1) := by decide +kernel
theorem dX9_chain_27 : decode cX9_chain 27 = .ok (.invokevirtual 190, 3) := by decide +kernel
theorem dX9_chain_30 : decode cX9_chain 30 = .ok (.iload_n 1, 1) := by decide +kernel
theorem dX9_chain_31 : decode cX9_chain 31 = .ok (.aload_n 0, 1) := by decide +kernel
theorem dX9_chain_32 : decode cX9_chain 32 = .ok (.getfield 33, 3) := by decide +kernel
theorem dX9_chain_35 : decode cX9_chain 35 = .ok (.getfield 193, 3) := by decide +kernel
theorem dX9_chain_38 : decode cX9_chain 38 = .ok (.if_icmp .lt 5, 3) := by decide +kernel
theorem dX9_chain_41 : decode cX9_chain 41 = .ok (.iconst (-1), 1) := by decide +kernel
theorem dX9_chain_42 : decode cX9_chain 42 = .ok (.ireturn, 1) := by decide +kernel
theorem dX9_chain_43 : decode cX9_chain 43 = .ok (.iload_n 2, 1) := by decide +kernel
theorem dX9_chain_44 : decode cX9_chain 44 = .ok (.ifCond .ne 13, 3) := by decide +kernel
theorem dX9_chain_47 : decode cX9_chain 47 = .ok (.aload_n 0, 1) := by decide +kernel
theorem dX9_chain_48 : decode cX9_chain 48 = .ok (.getfield 33, 3) := by decide +kernel
theorem dX9_chain_51 : decode cX9_chain 51 = .ok (.getfield 194, 3) := by decide +kernel
theorem dX9_chain_54 : decode cX9_chain 54 = .ok (.iload_n 1, 1) := by decide +kernel
theorem dX9_chain_55 : decode cX9_chain 55 = .ok (.iaload, 1) := by decide +kernel
theorem dX9_chain_56 : decode cX9_chain 56 = .ok (.ireturn, 1) := by decide +kernel
theorem dX9_chain_57 : decode cX9_chain 57 = .ok (.iload_n 2, 1) := by decide +kernel
theorem dX9_chain_58 : decode cX9_chain 58 = .ok (.iconst 1, 1) := by decide +kernel
theorem dX9_chain_59 : decode cX9_chain 59 = .ok (.if_icmp .ne 13, 3) := by decide +kernel
theorem dX9_chain_62 : decode cX9_chain 62 = .ok (.aload_n 0, 1) := by decide +kernel
theorem dX9_chain_63 : decode cX9_chain 63 = .ok (.getfield 33, 3) := by decide +kernel
theorem dX9_chain_66 : decode cX9_chain 66 = .ok (.getfield 197, 3) := by decide +kernel
theorem dX9_chain_69 : decode cX9_chain 69 = .ok (.iload_n 1, 1) := by decide +kernel
theorem dX9_chain_70 : decode cX9_chain 70 = .ok (.iaload, 1) := by decide +kernel
theorem dX9_chain_71 : decode cX9_chain 71 = .ok (.ireturn, 1) := by decide +kernel
theorem dX9_chain_72 : decode cX9_chain 72 = .ok (.iload_n 2, 1) := by decide +kernel
theorem dX9_chain_73 : decode cX9_chain 73 = .ok (.iconst 2, 1) := by decide +kernel
theorem dX9_chain_74 : decode cX9_chain 74 = .ok (.if_icmp .ne 13, 3) := by decide +kernel
theorem dX9_chain_77 : decode cX9_chain 77 = .ok (.aload_n 0, 1) := by decide +kernel
theorem dX9_chain_78 : decode cX9_chain 78 = .ok (.getfield 33, 3) := by decide +kernel
theorem dX9_chain_81 : decode cX9_chain 81 = .ok (.getfield 198, 3) := by decide +kernel
theorem dX9_chain_84 : decode cX9_chain 84 = .ok (.iload_n 1, 1) := by decide +kernel
theorem dX9_chain_85 : decode cX9_chain 85 = .ok (.iaload, 1) := by decide +kernel
theorem dX9_chain_86 : decode cX9_chain 86 = .ok (.ireturn, 1) := by decide +kernel
theorem dX9_chain_87 : decode cX9_chain 87 = .ok (.iload_n 2, 1) := by decide +kernel
theorem dX9_chain_88 : decode cX9_chain 88 = .ok (.iconst 3, 1) := by decide +kernel
theorem dX9_chain_89 : decode cX9_chain 89 = .ok (.if_icmp .ne 15, 3) := by decide +kernel
theorem dX9_chain_92 : decode cX9_chain 92 = .ok (.aload_n 0, 1) := by decide +kernel
theorem dX9_chain_93 : decode cX9_chain 93 = .ok (.getfield 33, 3) := by decide +kernel
theorem dX9_chain_96 : decode cX9_chain 96 = .ok (.getfield 199, 3) := by decide +kernel
theorem dX9_chain_99 : decode cX9_chain 99 = .ok (.iload_n 1, 1) := by decide +kernel
theorem dX9_chain_100 : decode cX9_chain 100 = .ok (.iaload, 1) := by decide +kernel
theorem dX9_chain_101 : decode cX9_chain 101 = .ok (.goto 11, 3) := by decide +kernel
theorem dX9_chain_104 : decode cX9_chain 104 = .ok (.aload_n 0, 1) := by decide +kernel
theorem dX9_chain_105 : decode cX9_chain 105 = .ok (.getfield 33, 3) := by decide +kernel
theorem dX9_chain_108 : decode cX9_chain 108 = .ok (.iload_n 1, 1) := by decide +kernel
theorem dX9_chain_109 : decode cX9_chain 109 = .ok (.invokevirtual 202, 3) := by decide +kernel
theorem dX9_chain_112 : decode cX9_chain 112 = .ok (.ireturn, 1) := by decide +kernel
theorem dX9_over_0 : decode cX9_over 0 = .ok (.aload_n 0, 1) := by decide +kernel
theorem dX9_over_1 : decode cX9_over 1 = .ok (.invokevirtual 113, 3) := by decide +kernel
theorem dX9_over_4 : decode cX9_over 4 = .ok (.aload_n 0, 1) := by decide +kernel
theorem dX9_over_5 : decode cX9_over 5 = .ok (.iload_n 1, 1) := by decide +kernel
theorem dX9_over_6 : decode cX9_over 6 = .ok (.invokevirtual 205, 3) := by decide +kernel
theorem dX9_over_9 : decode cX9_over 9 = .ok (.ifCond .ne 12, 3) := by decide +kernel
theorem dX9_over_12 : decode cX9_over 12 = .ok (.iload_n 2, 1) := by decide +kernel
theorem dX9_over_13 : decode cX9_over 13 = .ok (.ifCond .lt 8, 3) := by decide +kernel
theorem dX9_over_16 : decode cX9_over 16 = .ok (.iload_n 2, 1) := by decide +kernel
theorem dX9_over_17 : decode cX9_over 17 = .ok (.iconst 1, 1) := by decide +kernel
theorem dX9_over_18 : decode cX9_over 18 = .ok (.if_icmp .le 6, 3) := by decide +kernel
theorem dX9_over_21 : decode cX9_over 21 = .ok (.bipush (-2), 2) := by decide +kernel
theorem dX9_over_23 : decode cX9_over 23 = .ok (.ireturn, 1) := by decide +kernel
theorem dX9_over_24 : decode cX9_over 24 = .ok (.aload_n 0, 1) := by decide +kernel
theorem dX9_over_25 : decode cX9_over 25 = .ok (.invokevirtual 190, 3) := by decide +kernel
theorem dX9_over_28 : decode cX9_over 28 = .ok (.iload_n 2, 1) := by decide +kernel
theorem dX9_over_29 : decode cX9_over 29 = .ok (.ifCond .ne 14, 3) := by decide +kernel
theorem dX9_over_32 : decode cX9_over 32 = .ok (.aload_n 0, 1) := by decide +kernel
theorem dX9_over_33 : decode cX9_over 33 = .ok (.getfield 33, 3) := by decide +kernel
theorem dX9_over_36 : decode cX9_over 36 = .ok (.iload_n 1, 1) := by decide +kernel
theorem dX9_over_37 : decode cX9_over 37 = .ok (.invokevirtual 208, 3) := by decide +kernel
theorem dX9_over_40 : decode cX9_over 40 = .ok (.goto 11, 3) := by decide +kernel
theorem dX9_over_43 : decode cX9_over 43 = .ok (.aload_n 0, 1) := by decide +kernel
theorem dX9_over_44 : decode cX9_over 44 = .ok (.getfield 33, 3) := by decide +kernel
theorem dX9_over_47 : decode cX9_over 47 = .ok (.iload_n 1, 1) := by decide +kernel
theorem dX9_over_48 : decode cX9_over 48 = .ok (.invokevirtual 211, 3) := by decide +kernel
theorem dX9_over_51 : decode cX9_over 51 = .ok (.ireturn, 1) := by decide +kernel
theorem dX9_cost_0 : decode cX9_cost 0 = .ok (.aload_n 0, 1) := by decide +kernel
theorem dX9_cost_1 : decode cX9_cost 1 = .ok (.invokevirtual 113, 3) := by decide +kernel
theorem dX9_cost_4 : decode cX9_cost 4 = .ok (.aload_n 0, 1) := by decide +kernel
theorem dX9_cost_5 : decode cX9_cost 5 = .ok (.getfield 26, 3) := by decide +kernel
theorem dX9_cost_8 : decode cX9_cost 8 = .ok (.getfield 214, 3) := by decide +kernel
theorem dX9_cost_11 : decode cX9_cost 11 = .ok (.istore_n 3, 1) := by decide +kernel
theorem dX9_cost_12 : decode cX9_cost 12 = .ok (.iload_n 1, 1) := by decide +kernel
theorem dX9_cost_13 : decode cX9_cost 13 = .ok (.ifCond .lt 17, 3) := by decide +kernel
theorem dX9_cost_16 : decode cX9_cost 16 = .ok (.iload_n 1, 1) := by decide +kernel
theorem dX9_cost_17 : decode cX9_cost 17 = .ok (.iload_n 3, 1) := by decide +kernel
theorem dX9_cost_18 : decode cX9_cost 18 = .ok (.if_icmp .gt 12, 3) := by decide +kernel
theorem dX9_cost_21 : decode cX9_cost 21 = .ok (.iload_n 2, 1) := by decide +kernel
theorem dX9_cost_22 : decode cX9_cost 22 = .ok (.ifCond .lt 8, 3) := by decide +kernel
theorem dX9_cost_25 : decode cX9_cost 25 = .ok (.iload_n 2, 1) := by decide +kernel
theorem dX9_cost_26 : decode cX9_cost 26 = .ok (.iload_n 3, 1) := by decide +kernel
theorem dX9_cost_27 : decode cX9_cost 27 = .ok (.if_icmp .le 6, 3) := by decide +kernel
theorem dX9_cost_30 : decode cX9_cost 30 = .ok (.bipush (-2), 2) := by decide +kernel
theorem dX9_cost_32 : decode cX9_cost 32 = .ok (.ireturn, 1) := by decide +kernel
theorem dX9_cost_33 : decode cX9_cost 33 = .ok (.iload_n 2, 1) := by decide +kernel
theorem dX9_cost_34 : decode cX9_cost 34 = .ok (.iload_n 1, 1) := by decide +kernel
theorem dX9_cost_35 : decode cX9_cost 35 = .ok (.if_icmp .gt 6, 3) := by decide +kernel
theorem dX9_cost_38 : decode cX9_cost 38 = .ok (.bipush (-3), 2) := by decide +kernel
theorem dX9_cost_40 : decode cX9_cost 40 = .ok (.ireturn, 1) := by decide +kernel
theorem dX9_cost_41 : decode cX9_cost 41 = .ok (.aload_n 0, 1) := by decide +kernel
theorem dX9_cost_42 : decode cX9_cost 42 = .ok (.invokevirtual 217, 3) := by decide +kernel
theorem dX9_cost_45 : decode cX9_cost 45 = .ok (.aload_n 0, 1) := by decide +kernel
theorem dX9_cost_46 : decode cX9_cost 46 = .ok (.getfield 40, 3) := by decide +kernel
theorem dX9_cost_49 : decode cX9_cost 49 = .ok (.getfield 220, 3) := by decide +kernel
theorem dX9_cost_52 : decode cX9_cost 52 = .ok (.iload_n 1, 1) := by decide +kernel
theorem dX9_cost_53 : decode cX9_cost 53 = .ok (.aaload, 1) := by decide +kernel
theorem dX9_cost_54 : decode cX9_cost 54 = .ok (.iload_n 2, 1) := by decide +kernel
theorem dX9_cost_55 : decode cX9_cost 55 = .ok (.iaload, 1) := by decide +kernel
theorem dX9_cost_56 : decode cX9_cost 56 = .ok (.ireturn, 1) := by decide +kernel
theorem dX9_best_0 : decode cX9_best 0 = .ok (.iload_n 1, 1) := by decide +kernel
theorem dX9_best_1 : decode cX9_best 1 = .ok (.invokestatic 223, 3) := by decide +kernel
theorem dX9_best_4 : decode cX9_best 4 = .ok (.ifCond .eq 6, 3) := by decide +kernel
theorem dX9_best_7 : decode cX9_best 7 = .ok (.bipush (-2), 2) := by decide +kernel
theorem dX9_best_9 : decode cX9_best 9 = .ok (.ireturn, 1) := by decide +kernel
theorem dX9_best_10 : decode cX9_best 10 = .ok (.aload_n 0, 1) := by decide +kernel
theorem dX9_best_11 : decode cX9_best 11 = .ok (.invokevirtual 113, 3) := by decide +kernel
theorem dX9_best_14 : decode cX9_best 14 = .ok (.iload_n 1, 1) := by decide +kernel
theorem dX9_best_15 : decode cX9_best 15 = .ok (.aload_n 0, 1) := by decide +kernel
theorem dX9_best_16 : decode cX9_best 16 = .ok (.getfield 26, 3) := by decide +kernel
theorem dX9_best_19 : decode cX9_best 19 = .ok (.getfield 214, 3) := by decide +kernel
theorem dX9_best_22 : decode cX9_best 22 = .ok (.if_icmp .le 5, 3) := by decide +kernel
theorem dX9_best_25 : decode cX9_best 25 = .ok (.iconst (-1), 1) := by decide +kernel
theorem dX9_best_26 : decode cX9_best 26 = .ok (.ireturn, 1) := by decide +kernel
theorem dX9_best_27 : decode cX9_best 27 = .ok (.aload_n 0, 1) := by decide +kernel
theorem dX9_best_28 : decode cX9_best 28 = .ok (.invokevirtual 217, 3) := by decide +kernel
theorem dX9_best_31 : decode cX9_best 31 = .ok (.aload_n 0, 1) := by decide +kernel
theorem dX9_best_32 : decode cX9_best 32 = .ok (.getfield 47, 3) := by decide +kernel
theorem dX9_best_35 : decode cX9_best 35 = .ok (.iload_n 1, 1) := by decide +kernel
theorem dX9_best_36 : decode cX9_best 36 = .ok (.aload_n 0, 1) := by decide +kernel
theorem dX9_best_37 : decode cX9_best 37 = .ok (.getfield 26, 3) := by decide +kernel
theorem dX9_best_40 : decode cX9_best 40 = .ok (.getfield 214, 3) := by decide +kernel
theorem dX9_best_43 : decode cX9_best 43 = .ok (.invokevirtual 226, 3) := by decide +kernel
theorem dX9_best_46 : decode cX9_best 46 = .ok (.ireturn, 1) := by decide +kernel
theorem dX9_seam_0 : decode cX9_seam 0 = .ok (.iload_n 1, 1) := by decide +kernel
theorem dX9_seam_1 : decode cX9_seam 1 = .ok (.invokestatic 223, 3) := by decide +kernel
theorem dX9_seam_4 : decode cX9_seam 4 = .ok (.ifCond .ne 13, 3) := by decide +kernel
theorem dX9_seam_7 : decode cX9_seam 7 = .ok (.iload_n 2, 1) := by decide +kernel
theorem dX9_seam_8 : decode cX9_seam 8 = .ok (.ifCond .lt 9, 3) := by decide +kernel
theorem dX9_seam_11 : decode cX9_seam 11 = .ok (.iload_n 2, 1) := by decide +kernel
theorem dX9_seam_12 : decode cX9_seam 12 = .ok (.bipush 8, 2) := by decide +kernel
theorem dX9_seam_14 : decode cX9_seam 14 = .ok (.if_icmp .lt 6, 3) := by decide +kernel
theorem dX9_seam_17 : decode cX9_seam 17 = .ok (.bipush (-2), 2) := by decide +kernel
theorem dX9_seam_19 : decode cX9_seam 19 = .ok (.ireturn, 1) := by decide +kernel
theorem dX9_seam_20 : decode cX9_seam 20 = .ok (.aload_n 0, 1) := by decide +kernel
theorem dX9_seam_21 : decode cX9_seam 21 = .ok (.invokevirtual 113, 3) := by decide +kernel
theorem dX9_seam_24 : decode cX9_seam 24 = .ok (.iload_n 1, 1) := by decide +kernel
theorem dX9_seam_25 : decode cX9_seam 25 = .ok (.aload_n 0, 1) := by decide +kernel
theorem dX9_seam_26 : decode cX9_seam 26 = .ok (.getfield 26, 3) := by decide +kernel
theorem dX9_seam_29 : decode cX9_seam 29 = .ok (.getfield 214, 3) := by decide +kernel
theorem dX9_seam_32 : decode cX9_seam 32 = .ok (.if_icmp .gt 8, 3) := by decide +kernel
theorem dX9_seam_35 : decode cX9_seam 35 = .ok (.iload_n 2, 1) := by decide +kernel
theorem dX9_seam_36 : decode cX9_seam 36 = .ok (.iload_n 1, 1) := by decide +kernel
theorem dX9_seam_37 : decode cX9_seam 37 = .ok (.if_icmp .lt 5, 3) := by decide +kernel
theorem dX9_seam_40 : decode cX9_seam 40 = .ok (.iconst (-1), 1) := by decide +kernel
theorem dX9_seam_41 : decode cX9_seam 41 = .ok (.ireturn, 1) := by decide +kernel
theorem dX9_seam_42 : decode cX9_seam 42 = .ok (.aload_n 0, 1) := by decide +kernel
theorem dX9_seam_43 : decode cX9_seam 43 = .ok (.invokevirtual 217, 3) := by decide +kernel
theorem dX9_seam_46 : decode cX9_seam 46 = .ok (.aload_n 0, 1) := by decide +kernel
theorem dX9_seam_47 : decode cX9_seam 47 = .ok (.getfield 47, 3) := by decide +kernel
theorem dX9_seam_50 : decode cX9_seam 50 = .ok (.iload_n 1, 1) := by decide +kernel
theorem dX9_seam_51 : decode cX9_seam 51 = .ok (.iload_n 2, 1) := by decide +kernel
theorem dX9_seam_52 : decode cX9_seam 52 = .ok (.aload_n 0, 1) := by decide +kernel
theorem dX9_seam_53 : decode cX9_seam 53 = .ok (.getfield 26, 3) := by decide +kernel
theorem dX9_seam_56 : decode cX9_seam 56 = .ok (.getfield 214, 3) := by decide +kernel
theorem dX9_seam_59 : decode cX9_seam 59 = .ok (.invokevirtual 229, 3) := by decide +kernel
theorem dX9_seam_62 : decode cX9_seam 62 = .ok (.ireturn, 1) := by decide +kernel
theorem dX9_bent_0 : decode cX9_bent 0 = .ok (.aload_n 0, 1) := by decide +kernel
theorem dX9_bent_1 : decode cX9_bent 1 = .ok (.invokevirtual 113, 3) := by decide +kernel
theorem dX9_bent_4 : decode cX9_bent 4 = .ok (.aload_n 0, 1) := by decide +kernel
theorem dX9_bent_5 : decode cX9_bent 5 = .ok (.invokevirtual 217, 3) := by decide +kernel
theorem dX9_bent_8 : decode cX9_bent 8 = .ok (.iconst 0, 1) := by decide +kernel
theorem dX9_bent_9 : decode cX9_bent 9 = .ok (.istore_n 1, 1) := by decide +kernel
theorem dX9_bent_10 : decode cX9_bent 10 = .ok (.iconst 2, 1) := by decide +kernel
theorem dX9_bent_11 : decode cX9_bent 11 = .ok (.istore_n 2, 1) := by decide +kernel
theorem dX9_bent_12 : decode cX9_bent 12 = .ok (.iload_n 2, 1) := by decide +kernel
theorem dX9_bent_13 : decode cX9_bent 13 = .ok (.bipush 8, 2) := by decide +kernel
theorem dX9_bent_15 : decode cX9_bent 15 = .ok (.if_icmp .ge 44, 3) := by decide +kernel
theorem dX9_bent_18 : decode cX9_bent 18 = .ok (.iload_n 2, 1) := by decide +kernel
theorem dX9_bent_19 : decode cX9_bent 19 = .ok (.aload_n 0, 1) := by decide +kernel
theorem dX9_bent_20 : decode cX9_bent 20 = .ok (.getfield 26, 3) := by decide +kernel
theorem dX9_bent_23 : decode cX9_bent 23 = .ok (.getfield 214, 3) := by decide +kernel
theorem dX9_bent_26 : decode cX9_bent 26 = .ok (.if_icmp .ge 33, 3) := by decide +kernel
theorem dX9_bent_29 : decode cX9_bent 29 = .ok (.aload_n 0, 1) := by decide +kernel
theorem dX9_bent_30 : decode cX9_bent 30 = .ok (.getfield 47, 3) := by decide +kernel
theorem dX9_bent_33 : decode cX9_bent 33 = .ok (.iload_n 2, 1) := by decide +kernel
theorem dX9_bent_34 : decode cX9_bent 34 = .ok (.aload_n 0, 1) := by decide +kernel
theorem dX9_bent_35 : decode cX9_bent 35 = .ok (.getfield 26, 3) := by decide +kernel
theorem dX9_bent_38 : decode cX9_bent 38 = .ok (.getfield 214, 3) := by decide +kernel
theorem dX9_bent_41 : decode cX9_bent 41 = .ok (.invokevirtual 233, 3) := by decide +kernel
theorem dX9_bent_44 : decode cX9_bent 44 = .ok (.ifCond .eq 9, 3) := by decide +kernel
theorem dX9_bent_47 : decode cX9_bent 47 = .ok (.iload_n 1, 1) := by decide +kernel
theorem dX9_bent_48 : decode cX9_bent 48 = .ok (.iconst 1, 1) := by decide +kernel
theorem dX9_bent_49 : decode cX9_bent 49 = .ok (.iload_n 2, 1) := by decide +kernel
theorem dX9_bent_50 : decode cX9_bent 50 = .ok (.ishl, 1) := by decide +kernel
theorem dX9_bent_51 : decode cX9_bent 51 = .ok (.ior, 1) := by decide +kernel
theorem dX9_bent_52 : decode cX9_bent 52 = .ok (.istore_n 1, 1) := by decide +kernel
theorem dX9_bent_53 : decode cX9_bent 53 = .ok (.iinc 2 1, 3) := by decide +kernel
theorem dX9_bent_56 : decode cX9_bent 56 = .ok (.goto (-44), 3) := by decide +kernel
theorem dX9_bent_59 : decode cX9_bent 59 = .ok (.iload_n 1, 1) := by decide +kernel
theorem dX9_bent_60 : decode cX9_bent 60 = .ok (.ireturn, 1) := by decide +kernel
theorem dX9_drop_0 : decode cX9_drop 0 = .ok (.iload_n 1, 1) := by decide +kernel
theorem dX9_drop_1 : decode cX9_drop 1 = .ok (.invokestatic 223, 3) := by decide +kernel
theorem dX9_drop_4 : decode cX9_drop 4 = .ok (.ifCond .ne 12, 3) := by decide +kernel
theorem dX9_drop_7 : decode cX9_drop 7 = .ok (.iload_n 2, 1) := by decide +kernel
theorem dX9_drop_8 : decode cX9_drop 8 = .ok (.ifCond .lt 8, 3) := by decide +kernel
theorem dX9_drop_11 : decode cX9_drop 11 = .ok (.iload_n 2, 1) := by decide +kernel
theorem dX9_drop_12 : decode cX9_drop 12 = .ok (.iconst 1, 1) := by decide +kernel
theorem dX9_drop_13 : decode cX9_drop 13 = .ok (.if_icmp .le 6, 3) := by decide +kernel
theorem dX9_drop_16 : decode cX9_drop 16 = .ok (.bipush (-2), 2) := by decide +kernel
theorem dX9_drop_18 : decode cX9_drop 18 = .ok (.ireturn, 1) := by decide +kernel
theorem dX9_drop_19 : decode cX9_drop 19 = .ok (.aload_n 0, 1) := by decide +kernel
theorem dX9_drop_20 : decode cX9_drop 20 = .ok (.invokevirtual 113, 3) := by decide +kernel
theorem dX9_drop_23 : decode cX9_drop 23 = .ok (.aload_n 0, 1) := by decide +kernel
theorem dX9_drop_24 : decode cX9_drop 24 = .ok (.invokevirtual 237, 3) := by decide +kernel
theorem dX9_drop_27 : decode cX9_drop 27 = .ok (.iload_n 2, 1) := by decide +kernel
theorem dX9_drop_28 : decode cX9_drop 28 = .ok (.ifCond .ne 15, 3) := by decide +kernel
theorem dX9_drop_31 : decode cX9_drop 31 = .ok (.aload_n 0, 1) := by decide +kernel
theorem dX9_drop_32 : decode cX9_drop 32 = .ok (.getfield 54, 3) := by decide +kernel
theorem dX9_drop_35 : decode cX9_drop 35 = .ok (.getfield 240, 3) := by decide +kernel
theorem dX9_drop_38 : decode cX9_drop 38 = .ok (.iload_n 1, 1) := by decide +kernel
theorem dX9_drop_39 : decode cX9_drop 39 = .ok (.iaload, 1) := by decide +kernel
theorem dX9_drop_40 : decode cX9_drop 40 = .ok (.goto 12, 3) := by decide +kernel
theorem dX9_drop_43 : decode cX9_drop 43 = .ok (.aload_n 0, 1) := by decide +kernel
theorem dX9_drop_44 : decode cX9_drop 44 = .ok (.getfield 54, 3) := by decide +kernel
theorem dX9_drop_47 : decode cX9_drop 47 = .ok (.getfield 243, 3) := by decide +kernel
theorem dX9_drop_50 : decode cX9_drop 50 = .ok (.iload_n 1, 1) := by decide +kernel
theorem dX9_drop_51 : decode cX9_drop 51 = .ok (.iaload, 1) := by decide +kernel
theorem dX9_drop_52 : decode cX9_drop 52 = .ok (.ireturn, 1) := by decide +kernel
theorem dX9_gap_0 : decode cX9_gap 0 = .ok (.aload_n 0, 1) := by decide +kernel
theorem dX9_gap_1 : decode cX9_gap 1 = .ok (.invokevirtual 113, 3) := by decide +kernel
theorem dX9_gap_4 : decode cX9_gap 4 = .ok (.aload_n 0, 1) := by decide +kernel
theorem dX9_gap_5 : decode cX9_gap 5 = .ok (.iload_n 1, 1) := by decide +kernel
theorem dX9_gap_6 : decode cX9_gap 6 = .ok (.invokevirtual 205, 3) := by decide +kernel
theorem dX9_gap_9 : decode cX9_gap 9 = .ok (.ifCond .ne 12, 3) := by decide +kernel
theorem dX9_gap_12 : decode cX9_gap 12 = .ok (.iload_n 2, 1) := by decide +kernel
theorem dX9_gap_13 : decode cX9_gap 13 = .ok (.ifCond .lt 8, 3) := by decide +kernel
theorem dX9_gap_16 : decode cX9_gap 16 = .ok (.iload_n 2, 1) := by decide +kernel
theorem dX9_gap_17 : decode cX9_gap 17 = .ok (.iconst 1, 1) := by decide +kernel
theorem dX9_gap_18 : decode cX9_gap 18 = .ok (.if_icmp .le 6, 3) := by decide +kernel
theorem dX9_gap_21 : decode cX9_gap 21 = .ok (.bipush (-2), 2) := by decide +kernel
theorem dX9_gap_23 : decode cX9_gap 23 = .ok (.ireturn, 1) := by decide +kernel
theorem dX9_gap_24 : decode cX9_gap 24 = .ok (.aload_n 0, 1) := by decide +kernel
theorem dX9_gap_25 : decode cX9_gap 25 = .ok (.invokevirtual 246, 3) := by decide +kernel
theorem dX9_gap_28 : decode cX9_gap 28 = .ok (.iload_n 2, 1) := by decide +kernel
theorem dX9_gap_29 : decode cX9_gap 29 = .ok (.ifCond .ne 15, 3) := by decide +kernel
theorem dX9_gap_32 : decode cX9_gap 32 = .ok (.aload_n 0, 1) := by decide +kernel
theorem dX9_gap_33 : decode cX9_gap 33 = .ok (.getfield 61, 3) := by decide +kernel
theorem dX9_gap_36 : decode cX9_gap 36 = .ok (.getfield 249, 3) := by decide +kernel
theorem dX9_gap_39 : decode cX9_gap 39 = .ok (.iload_n 1, 1) := by decide +kernel
theorem dX9_gap_40 : decode cX9_gap 40 = .ok (.iaload, 1) := by decide +kernel
theorem dX9_gap_41 : decode cX9_gap 41 = .ok (.goto 12, 3) := by decide +kernel
theorem dX9_gap_44 : decode cX9_gap 44 = .ok (.aload_n 0, 1) := by decide +kernel
theorem dX9_gap_45 : decode cX9_gap 45 = .ok (.getfield 61, 3) := by decide +kernel
theorem dX9_gap_48 : decode cX9_gap 48 = .ok (.getfield 252, 3) := by decide +kernel
theorem dX9_gap_51 : decode cX9_gap 51 = .ok (.iload_n 1, 1) := by decide +kernel
theorem dX9_gap_52 : decode cX9_gap 52 = .ok (.iaload, 1) := by decide +kernel
theorem dX9_gap_53 : decode cX9_gap 53 = .ok (.ireturn, 1) := by decide +kernel
theorem dX9_deep_0 : decode cX9_deep 0 = .ok (.iload_n 1, 1) := by decide +kernel
theorem dX9_deep_1 : decode cX9_deep 1 = .ok (.ifCond .lt 9, 3) := by decide +kernel
theorem dX9_deep_4 : decode cX9_deep 4 = .ok (.iload_n 1, 1) := by decide +kernel
theorem dX9_deep_5 : decode cX9_deep 5 = .ok (.bipush 11, 2) := by decide +kernel
theorem dX9_deep_7 : decode cX9_deep 7 = .ok (.if_icmp .lt 6, 3) := by decide +kernel
theorem dX9_deep_10 : decode cX9_deep 10 = .ok (.bipush (-2), 2) := by decide +kernel
theorem dX9_deep_12 : decode cX9_deep 12 = .ok (.ireturn, 1) := by decide +kernel
theorem dX9_deep_13 : decode cX9_deep 13 = .ok (.aload_n 0, 1) := by decide +kernel
theorem dX9_deep_14 : decode cX9_deep 14 = .ok (.invokevirtual 113, 3) := by decide +kernel
theorem dX9_deep_17 : decode cX9_deep 17 = .ok (.iload_n 1, 1) := by decide +kernel
theorem dX9_deep_18 : decode cX9_deep 18 = .ok (.aload_n 0, 1) := by decide +kernel
theorem dX9_deep_19 : decode cX9_deep 19 = .ok (.getfield 26, 3) := by decide +kernel
theorem dX9_deep_22 : decode cX9_deep 22 = .ok (.getfield 214, 3) := by decide +kernel
theorem dX9_deep_25 : decode cX9_deep 25 = .ok (.iconst 1, 1) := by decide +kernel
theorem dX9_deep_26 : decode cX9_deep 26 = .ok (.isub, 1) := by decide +kernel
theorem dX9_deep_27 : decode cX9_deep 27 = .ok (.if_icmp .lt 5, 3) := by decide +kernel
theorem dX9_deep_30 : decode cX9_deep 30 = .ok (.iconst (-1), 1) := by decide +kernel
theorem dX9_deep_31 : decode cX9_deep 31 = .ok (.ireturn, 1) := by decide +kernel
theorem dX9_deep_32 : decode cX9_deep 32 = .ok (.aload_n 0, 1) := by decide +kernel
theorem dX9_deep_33 : decode cX9_deep 33 = .ok (.invokevirtual 246, 3) := by decide +kernel
theorem dX9_deep_36 : decode cX9_deep 36 = .ok (.aload_n 0, 1) := by decide +kernel
theorem dX9_deep_37 : decode cX9_deep 37 = .ok (.getfield 61, 3) := by decide +kernel
theorem dX9_deep_40 : decode cX9_deep 40 = .ok (.getfield 255, 3) := by decide +kernel
theorem dX9_deep_43 : decode cX9_deep 43 = .ok (.iload_n 1, 1) := by decide +kernel
theorem dX9_deep_44 : decode cX9_deep 44 = .ok (.iaload, 1) := by decide +kernel
theorem dX9_deep_45 : decode cX9_deep 45 = .ok (.ireturn, 1) := by decide +kernel
theorem dX9_apart_0 : decode cX9_apart 0 = .ok (.iload_n 1, 1) := by decide +kernel
theorem dX9_apart_1 : decode cX9_apart 1 = .ok (.invokestatic 223, 3) := by decide +kernel
theorem dX9_apart_4 : decode cX9_apart 4 = .ok (.ifCond .ne 14, 3) := by decide +kernel
theorem dX9_apart_7 : decode cX9_apart 7 = .ok (.iload_n 2, 1) := by decide +kernel
theorem dX9_apart_8 : decode cX9_apart 8 = .ok (.iconst 1, 1) := by decide +kernel
theorem dX9_apart_9 : decode cX9_apart 9 = .ok (.if_icmp .lt 9, 3) := by decide +kernel
theorem dX9_apart_12 : decode cX9_apart 12 = .ok (.iload_n 2, 1) := by decide +kernel
theorem dX9_apart_13 : decode cX9_apart 13 = .ok (.bipush 11, 2) := by decide +kernel
theorem dX9_apart_15 : decode cX9_apart 15 = .ok (.if_icmp .le 6, 3) := by decide +kernel
theorem dX9_apart_18 : decode cX9_apart 18 = .ok (.bipush (-2), 2) := by decide +kernel
theorem dX9_apart_20 : decode cX9_apart 20 = .ok (.ireturn, 1) := by decide +kernel
theorem dX9_apart_21 : decode cX9_apart 21 = .ok (.aload_n 0, 1) := by decide +kernel
theorem dX9_apart_22 : decode cX9_apart 22 = .ok (.invokevirtual 113, 3) := by decide +kernel
theorem dX9_apart_25 : decode cX9_apart 25 = .ok (.aload_n 0, 1) := by decide +kernel
theorem dX9_apart_26 : decode cX9_apart 26 = .ok (.getfield 26, 3) := by decide +kernel
theorem dX9_apart_29 : decode cX9_apart 29 = .ok (.getfield 214, 3) := by decide +kernel
theorem dX9_apart_32 : decode cX9_apart 32 = .ok (.istore_n 3, 1) := by decide +kernel
theorem dX9_apart_33 : decode cX9_apart 33 = .ok (.iload_n 1, 1) := by decide +kernel
theorem dX9_apart_34 : decode cX9_apart 34 = .ok (.iload_n 3, 1) := by decide +kernel
theorem dX9_apart_35 : decode cX9_apart 35 = .ok (.if_icmp .le 5, 3) := by decide +kernel
theorem dX9_apart_38 : decode cX9_apart 38 = .ok (.iconst (-1), 1) := by decide +kernel
theorem dX9_apart_39 : decode cX9_apart 39 = .ok (.ireturn, 1) := by decide +kernel
theorem dX9_apart_40 : decode cX9_apart 40 = .ok (.aload_n 0, 1) := by decide +kernel
theorem dX9_apart_41 : decode cX9_apart 41 = .ok (.invokevirtual 217, 3) := by decide +kernel
theorem dX9_apart_44 : decode cX9_apart 44 = .ok (.aload_n 0, 1) := by decide +kernel
theorem dX9_apart_45 : decode cX9_apart 45 = .ok (.getfield 47, 3) := by decide +kernel
theorem dX9_apart_48 : decode cX9_apart 48 = .ok (.iload_n 1, 1) := by decide +kernel
theorem dX9_apart_49 : decode cX9_apart 49 = .ok (.iload_n 3, 1) := by decide +kernel
theorem dX9_apart_50 : decode cX9_apart 50 = .ok (.invokevirtual 258, 3) := by decide +kernel
theorem dX9_apart_53 : decode cX9_apart 53 = .ok (.istore 4, 2) := by decide +kernel
theorem dX9_apart_55 : decode cX9_apart 55 = .ok (.iconst 0, 1) := by decide +kernel
theorem dX9_apart_56 : decode cX9_apart 56 = .ok (.istore 5, 2) := by decide +kernel
theorem dX9_apart_58 : decode cX9_apart 58 = .ok (.iconst 0, 1) := by decide +kernel
theorem dX9_apart_59 : decode cX9_apart 59 = .ok (.istore 6, 2) := by decide +kernel
theorem dX9_apart_61 : decode cX9_apart 61 = .ok (.iload 6, 2) := by decide +kernel
theorem dX9_apart_63 : decode cX9_apart 63 = .ok (.iload_n 2, 1) := by decide +kernel
theorem dX9_apart_64 : decode cX9_apart 64 = .ok (.iadd, 1) := by decide +kernel
theorem dX9_apart_65 : decode cX9_apart 65 = .ok (.iload_n 3, 1) := by decide +kernel
theorem dX9_apart_66 : decode cX9_apart 66 = .ok (.if_icmp .ge 45, 3) := by decide +kernel
theorem dX9_apart_69 : decode cX9_apart 69 = .ok (.iconst 1, 1) := by decide +kernel
theorem dX9_apart_70 : decode cX9_apart 70 = .ok (.iload_n 2, 1) := by decide +kernel
theorem dX9_apart_71 : decode cX9_apart 71 = .ok (.ishl, 1) := by decide +kernel
theorem dX9_apart_72 : decode cX9_apart 72 = .ok (.iconst 1, 1) := by decide +kernel
theorem dX9_apart_73 : decode cX9_apart 73 = .ok (.isub, 1) := by decide +kernel
theorem dX9_apart_74 : decode cX9_apart 74 = .ok (.iload 6, 2) := by decide +kernel
theorem dX9_apart_76 : decode cX9_apart 76 = .ok (.iconst 1, 1) := by decide +kernel
theorem dX9_apart_77 : decode cX9_apart 77 = .ok (.iadd, 1) := by decide +kernel
theorem dX9_apart_78 : decode cX9_apart 78 = .ok (.ishl, 1) := by decide +kernel
theorem dX9_apart_79 : decode cX9_apart 79 = .ok (.istore 7, 2) := by decide +kernel
theorem dX9_apart_81 : decode cX9_apart 81 = .ok (.iload 4, 2) := by decide +kernel
theorem dX9_apart_83 : decode cX9_apart 83 = .ok (.iload 7, 2) := by decide +kernel
theorem dX9_apart_85 : decode cX9_apart 85 = .ok (.iand, 1) := by decide +kernel
theorem dX9_apart_86 : decode cX9_apart 86 = .ok (.invokestatic 261, 3) := by decide +kernel
theorem dX9_apart_89 : decode cX9_apart 89 = .ok (.aload_n 0, 1) := by decide +kernel
theorem dX9_apart_90 : decode cX9_apart 90 = .ok (.getfield 76, 3) := by decide +kernel
theorem dX9_apart_93 : decode cX9_apart 93 = .ok (.iload 7, 2) := by decide +kernel
theorem dX9_apart_95 : decode cX9_apart 95 = .ok (.iand, 1) := by decide +kernel
theorem dX9_apart_96 : decode cX9_apart 96 = .ok (.invokestatic 261, 3) := by decide +kernel
theorem dX9_apart_99 : decode cX9_apart 99 = .ok (.if_icmp .eq 6, 3) := by decide +kernel
theorem dX9_apart_102 : decode cX9_apart 102 = .ok (.iinc 5 1, 3) := by decide +kernel
theorem dX9_apart_105 : decode cX9_apart 105 = .ok (.iinc 6 1, 3) := by decide +kernel
theorem dX9_apart_108 : decode cX9_apart 108 = .ok (.goto (-47), 3) := by decide +kernel
theorem dX9_apart_111 : decode cX9_apart 111 = .ok (.iload 5, 2) := by decide +kernel
theorem dX9_apart_113 : decode cX9_apart 113 = .ok (.ireturn, 1) := by decide +kernel
theorem dX9_sheet_0 : decode cX9_sheet 0 = .ok (.iload_n 1, 1) := by decide +kernel
theorem dX9_sheet_1 : decode cX9_sheet 1 = .ok (.invokestatic 131, 3) := by decide +kernel
theorem dX9_sheet_4 : decode cX9_sheet 4 = .ok (.ifCond .ne 16, 3) := by decide +kernel
theorem dX9_sheet_7 : decode cX9_sheet 7 = .ok (.iload_n 2, 1) := by decide +kernel
theorem dX9_sheet_8 : decode cX9_sheet 8 = .ok (.invokestatic 266, 3) := by decide +kernel
theorem dX9_sheet_11 : decode cX9_sheet 11 = .ok (.ifCond .ne 9, 3) := by decide +kernel
theorem dX9_sheet_14 : decode cX9_sheet 14 = .ok (.iload_n 3, 1) := by decide +kernel
theorem dX9_sheet_15 : decode cX9_sheet 15 = .ok (.bipush 60, 2) := by decide +kernel
theorem dX9_sheet_17 : decode cX9_sheet 17 = .ok (.if_icmp .le 6, 3) := by decide +kernel
theorem dX9_sheet_20 : decode cX9_sheet 20 = .ok (.bipush (-2), 2) := by decide +kernel
theorem dX9_sheet_22 : decode cX9_sheet 22 = .ok (.ireturn, 1) := by decide +kernel
theorem dX9_sheet_23 : decode cX9_sheet 23 = .ok (.iload_n 3, 1) := by decide +kernel
theorem dX9_sheet_24 : decode cX9_sheet 24 = .ok (.ifCond .ge 9, 3) := by decide +kernel
theorem dX9_sheet_27 : decode cX9_sheet 27 = .ok (.aload_n 0, 1) := by decide +kernel
theorem dX9_sheet_28 : decode cX9_sheet 28 = .ok (.iconst 5, 1) := by decide +kernel
theorem dX9_sheet_29 : decode cX9_sheet 29 = .ok (.invokevirtual 137, 3) := by decide +kernel
theorem dX9_sheet_32 : decode cX9_sheet 32 = .ok (.ireturn, 1) := by decide +kernel
theorem dX9_sheet_33 : decode cX9_sheet 33 = .ok (.aload_n 0, 1) := by decide +kernel
theorem dX9_sheet_34 : decode cX9_sheet 34 = .ok (.getfield 68, 3) := by decide +kernel
theorem dX9_sheet_37 : decode cX9_sheet 37 = .ok (.iload_n 1, 1) := by decide +kernel
theorem dX9_sheet_38 : decode cX9_sheet 38 = .ok (.iload_n 2, 1) := by decide +kernel
end
section
theorem dX9_sheet_39 : decode cX9_sheet 39 = .ok (.iload_n 3, 1) := by decide +kernel
theorem dX9_sheet_40 : decode cX9_sheet 40 = .ok (.invokevirtual 269, 3) := by decide +kernel
theorem dX9_sheet_43 : decode cX9_sheet 43 = .ok (.iload_n 3, 1) := by decide +kernel
theorem dX9_sheet_44 : decode cX9_sheet 44 = .ok (.ireturn, 1) := by decide +kernel
theorem dX9_lose_0 : decode cX9_lose 0 = .ok (.iload_n 1, 1) := by decide +kernel
theorem dX9_lose_1 : decode cX9_lose 1 = .ok (.invokestatic 131, 3) := by decide +kernel
theorem dX9_lose_4 : decode cX9_lose 4 = .ok (.ifCond .eq 6, 3) := by decide +kernel
theorem dX9_lose_7 : decode cX9_lose 7 = .ok (.bipush (-2), 2) := by decide +kernel
theorem dX9_lose_9 : decode cX9_lose 9 = .ok (.ireturn, 1) := by decide +kernel
theorem dX9_lose_10 : decode cX9_lose 10 = .ok (.aload_n 0, 1) := by decide +kernel
theorem dX9_lose_11 : decode cX9_lose 11 = .ok (.getfield 68, 3) := by decide +kernel
theorem dX9_lose_14 : decode cX9_lose 14 = .ok (.iload_n 1, 1) := by decide +kernel
theorem dX9_lose_15 : decode cX9_lose 15 = .ok (.invokevirtual 134, 3) := by decide +kernel
theorem dX9_lose_18 : decode cX9_lose 18 = .ok (.ifCond .eq 9, 3) := by decide +kernel
theorem dX9_lose_21 : decode cX9_lose 21 = .ok (.aload_n 0, 1) := by decide +kernel
theorem dX9_lose_22 : decode cX9_lose 22 = .ok (.iconst 1, 1) := by decide +kernel
theorem dX9_lose_23 : decode cX9_lose 23 = .ok (.invokevirtual 137, 3) := by decide +kernel
theorem dX9_lose_26 : decode cX9_lose 26 = .ok (.ireturn, 1) := by decide +kernel
theorem dX9_lose_27 : decode cX9_lose 27 = .ok (.aload_n 0, 1) := by decide +kernel
theorem dX9_lose_28 : decode cX9_lose 28 = .ok (.getfield 68, 3) := by decide +kernel
theorem dX9_lose_31 : decode cX9_lose 31 = .ok (.getfield 273, 3) := by decide +kernel
theorem dX9_lose_34 : decode cX9_lose 34 = .ok (.iload_n 1, 1) := by decide +kernel
theorem dX9_lose_35 : decode cX9_lose 35 = .ok (.iconst (-1), 1) := by decide +kernel
theorem dX9_lose_36 : decode cX9_lose 36 = .ok (.iastore, 1) := by decide +kernel
theorem dX9_lose_37 : decode cX9_lose 37 = .ok (.aload_n 0, 1) := by decide +kernel
theorem dX9_lose_38 : decode cX9_lose 38 = .ok (.getfield 68, 3) := by decide +kernel
theorem dX9_lose_41 : decode cX9_lose 41 = .ok (.getfield 276, 3) := by decide +kernel
theorem dX9_lose_44 : decode cX9_lose 44 = .ok (.iload_n 1, 1) := by decide +kernel
theorem dX9_lose_45 : decode cX9_lose 45 = .ok (.iaload, 1) := by decide +kernel
theorem dX9_lose_46 : decode cX9_lose 46 = .ok (.ireturn, 1) := by decide +kernel
theorem dX9_put_0 : decode cX9_put 0 = .ok (.iload_n 1, 1) := by decide +kernel
theorem dX9_put_1 : decode cX9_put 1 = .ok (.invokestatic 131, 3) := by decide +kernel
theorem dX9_put_4 : decode cX9_put 4 = .ok (.ifCond .ne 10, 3) := by decide +kernel
theorem dX9_put_7 : decode cX9_put 7 = .ok (.iload_n 2, 1) := by decide +kernel
theorem dX9_put_8 : decode cX9_put 8 = .ok (.invokestatic 266, 3) := by decide +kernel
theorem dX9_put_11 : decode cX9_put 11 = .ok (.ifCond .eq 6, 3) := by decide +kernel
theorem dX9_put_14 : decode cX9_put 14 = .ok (.bipush (-2), 2) := by decide +kernel
theorem dX9_put_16 : decode cX9_put 16 = .ok (.ireturn, 1) := by decide +kernel
theorem dX9_put_17 : decode cX9_put 17 = .ok (.aload_n 0, 1) := by decide +kernel
theorem dX9_put_18 : decode cX9_put 18 = .ok (.getfield 68, 3) := by decide +kernel
theorem dX9_put_21 : decode cX9_put 21 = .ok (.iload_n 1, 1) := by decide +kernel
theorem dX9_put_22 : decode cX9_put 22 = .ok (.iload_n 2, 1) := by decide +kernel
theorem dX9_put_23 : decode cX9_put 23 = .ok (.iload_n 3, 1) := by decide +kernel
theorem dX9_put_24 : decode cX9_put 24 = .ok (.invokevirtual 279, 3) := by decide +kernel
theorem dX9_put_27 : decode cX9_put 27 = .ok (.istore 5, 2) := by decide +kernel
theorem dX9_put_29 : decode cX9_put 29 = .ok (.iload 5, 2) := by decide +kernel
theorem dX9_put_31 : decode cX9_put 31 = .ok (.ifCond .eq 10, 3) := by decide +kernel
theorem dX9_put_34 : decode cX9_put 34 = .ok (.aload_n 0, 1) := by decide +kernel
theorem dX9_put_35 : decode cX9_put 35 = .ok (.iload 5, 2) := by decide +kernel
theorem dX9_put_37 : decode cX9_put 37 = .ok (.invokevirtual 137, 3) := by decide +kernel
theorem dX9_put_40 : decode cX9_put 40 = .ok (.ireturn, 1) := by decide +kernel
theorem dX9_put_41 : decode cX9_put 41 = .ok (.aload_n 0, 1) := by decide +kernel
theorem dX9_put_42 : decode cX9_put 42 = .ok (.getfield 68, 3) := by decide +kernel
theorem dX9_put_45 : decode cX9_put 45 = .ok (.iload_n 1, 1) := by decide +kernel
theorem dX9_put_46 : decode cX9_put 46 = .ok (.iload_n 3, 1) := by decide +kernel
theorem dX9_put_47 : decode cX9_put 47 = .ok (.iload 4, 2) := by decide +kernel
theorem dX9_put_49 : decode cX9_put 49 = .ok (.invokevirtual 282, 3) := by decide +kernel
theorem dX9_put_52 : decode cX9_put 52 = .ok (.iconst 1, 1) := by decide +kernel
theorem dX9_put_53 : decode cX9_put 53 = .ok (.ireturn, 1) := by decide +kernel
theorem dX9_get_0 : decode cX9_get 0 = .ok (.iload_n 1, 1) := by decide +kernel
theorem dX9_get_1 : decode cX9_get 1 = .ok (.invokestatic 131, 3) := by decide +kernel
theorem dX9_get_4 : decode cX9_get 4 = .ok (.ifCond .ne 10, 3) := by decide +kernel
theorem dX9_get_7 : decode cX9_get 7 = .ok (.iload_n 2, 1) := by decide +kernel
theorem dX9_get_8 : decode cX9_get 8 = .ok (.invokestatic 266, 3) := by decide +kernel
theorem dX9_get_11 : decode cX9_get 11 = .ok (.ifCond .eq 7, 3) := by decide +kernel
theorem dX9_get_14 : decode cX9_get 14 = .ok (.ldc_w 285, 3) := by decide +kernel
theorem dX9_get_17 : decode cX9_get 17 = .ok (.ireturn, 1) := by decide +kernel
theorem dX9_get_18 : decode cX9_get 18 = .ok (.aload_n 0, 1) := by decide +kernel
theorem dX9_get_19 : decode cX9_get 19 = .ok (.getfield 68, 3) := by decide +kernel
theorem dX9_get_22 : decode cX9_get 22 = .ok (.iload_n 1, 1) := by decide +kernel
theorem dX9_get_23 : decode cX9_get 23 = .ok (.iload_n 2, 1) := by decide +kernel
theorem dX9_get_24 : decode cX9_get 24 = .ok (.iload_n 3, 1) := by decide +kernel
theorem dX9_get_25 : decode cX9_get 25 = .ok (.invokevirtual 279, 3) := by decide +kernel
theorem dX9_get_28 : decode cX9_get 28 = .ok (.istore 4, 2) := by decide +kernel
theorem dX9_get_30 : decode cX9_get 30 = .ok (.iload 4, 2) := by decide +kernel
theorem dX9_get_32 : decode cX9_get 32 = .ok (.ifCond .eq 13, 3) := by decide +kernel
theorem dX9_get_35 : decode cX9_get 35 = .ok (.aload_n 0, 1) := by decide +kernel
theorem dX9_get_36 : decode cX9_get 36 = .ok (.iload 4, 2) := by decide +kernel
theorem dX9_get_38 : decode cX9_get 38 = .ok (.putfield 80, 3) := by decide +kernel
theorem dX9_get_41 : decode cX9_get 41 = .ok (.ldc_w 285, 3) := by decide +kernel
theorem dX9_get_44 : decode cX9_get 44 = .ok (.ireturn, 1) := by decide +kernel
theorem dX9_get_45 : decode cX9_get 45 = .ok (.aload_n 0, 1) := by decide +kernel
theorem dX9_get_46 : decode cX9_get 46 = .ok (.getfield 68, 3) := by decide +kernel
theorem dX9_get_49 : decode cX9_get 49 = .ok (.iload_n 1, 1) := by decide +kernel
theorem dX9_get_50 : decode cX9_get 50 = .ok (.iload_n 3, 1) := by decide +kernel
theorem dX9_get_51 : decode cX9_get 51 = .ok (.invokevirtual 150, 3) := by decide +kernel
theorem dX9_get_54 : decode cX9_get 54 = .ok (.ireturn, 1) := by decide +kernel
theorem dX9_copy_0 : decode cX9_copy 0 = .ok (.iload_n 1, 1) := by decide +kernel
theorem dX9_copy_1 : decode cX9_copy 1 = .ok (.invokestatic 131, 3) := by decide +kernel
theorem dX9_copy_4 : decode cX9_copy 4 = .ok (.ifCond .ne 10, 3) := by decide +kernel
theorem dX9_copy_7 : decode cX9_copy 7 = .ok (.iload_n 3, 1) := by decide +kernel
theorem dX9_copy_8 : decode cX9_copy 8 = .ok (.invokestatic 131, 3) := by decide +kernel
theorem dX9_copy_11 : decode cX9_copy 11 = .ok (.ifCond .eq 6, 3) := by decide +kernel
theorem dX9_copy_14 : decode cX9_copy 14 = .ok (.bipush (-2), 2) := by decide +kernel
theorem dX9_copy_16 : decode cX9_copy 16 = .ok (.ireturn, 1) := by decide +kernel
theorem dX9_copy_17 : decode cX9_copy 17 = .ok (.aload_n 0, 1) := by decide +kernel
theorem dX9_copy_18 : decode cX9_copy 18 = .ok (.getfield 68, 3) := by decide +kernel
theorem dX9_copy_21 : decode cX9_copy 21 = .ok (.iload_n 1, 1) := by decide +kernel
theorem dX9_copy_22 : decode cX9_copy 22 = .ok (.invokevirtual 134, 3) := by decide +kernel
theorem dX9_copy_25 : decode cX9_copy 25 = .ok (.ifCond .ne 14, 3) := by decide +kernel
theorem dX9_copy_28 : decode cX9_copy 28 = .ok (.aload_n 0, 1) := by decide +kernel
theorem dX9_copy_29 : decode cX9_copy 29 = .ok (.getfield 68, 3) := by decide +kernel
theorem dX9_copy_32 : decode cX9_copy 32 = .ok (.iload_n 3, 1) := by decide +kernel
theorem dX9_copy_33 : decode cX9_copy 33 = .ok (.invokevirtual 134, 3) := by decide +kernel
theorem dX9_copy_36 : decode cX9_copy 36 = .ok (.ifCond .eq 9, 3) := by decide +kernel
theorem dX9_copy_39 : decode cX9_copy 39 = .ok (.aload_n 0, 1) := by decide +kernel
theorem dX9_copy_40 : decode cX9_copy 40 = .ok (.iconst 1, 1) := by decide +kernel
theorem dX9_copy_41 : decode cX9_copy 41 = .ok (.invokevirtual 137, 3) := by decide +kernel
theorem dX9_copy_44 : decode cX9_copy 44 = .ok (.ireturn, 1) := by decide +kernel
theorem dX9_copy_45 : decode cX9_copy 45 = .ok (.aload_n 0, 1) := by decide +kernel
theorem dX9_copy_46 : decode cX9_copy 46 = .ok (.getfield 68, 3) := by decide +kernel
theorem dX9_copy_49 : decode cX9_copy 49 = .ok (.getfield 273, 3) := by decide +kernel
theorem dX9_copy_52 : decode cX9_copy 52 = .ok (.iload_n 1, 1) := by decide +kernel
theorem dX9_copy_53 : decode cX9_copy 53 = .ok (.iaload, 1) := by decide +kernel
theorem dX9_copy_54 : decode cX9_copy 54 = .ok (.aload_n 0, 1) := by decide +kernel
theorem dX9_copy_55 : decode cX9_copy 55 = .ok (.getfield 68, 3) := by decide +kernel
theorem dX9_copy_58 : decode cX9_copy 58 = .ok (.getfield 273, 3) := by decide +kernel
theorem dX9_copy_61 : decode cX9_copy 61 = .ok (.iload_n 3, 1) := by decide +kernel
theorem dX9_copy_62 : decode cX9_copy 62 = .ok (.iaload, 1) := by decide +kernel
theorem dX9_copy_63 : decode cX9_copy 63 = .ok (.if_icmp .eq 9, 3) := by decide +kernel
theorem dX9_copy_66 : decode cX9_copy 66 = .ok (.aload_n 0, 1) := by decide +kernel
theorem dX9_copy_67 : decode cX9_copy 67 = .ok (.iconst 4, 1) := by decide +kernel
theorem dX9_copy_68 : decode cX9_copy 68 = .ok (.invokevirtual 137, 3) := by decide +kernel
theorem dX9_copy_71 : decode cX9_copy 71 = .ok (.ireturn, 1) := by decide +kernel
theorem dX9_copy_72 : decode cX9_copy 72 = .ok (.aload_n 0, 1) := by decide +kernel
theorem dX9_copy_73 : decode cX9_copy 73 = .ok (.getfield 68, 3) := by decide +kernel
theorem dX9_copy_76 : decode cX9_copy 76 = .ok (.iload_n 1, 1) := by decide +kernel
theorem dX9_copy_77 : decode cX9_copy 77 = .ok (.iload_n 2, 1) := by decide +kernel
theorem dX9_copy_78 : decode cX9_copy 78 = .ok (.iload 5, 2) := by decide +kernel
theorem dX9_copy_80 : decode cX9_copy 80 = .ok (.invokevirtual 286, 3) := by decide +kernel
theorem dX9_copy_83 : decode cX9_copy 83 = .ok (.ifCond .ne 18, 3) := by decide +kernel
theorem dX9_copy_86 : decode cX9_copy 86 = .ok (.aload_n 0, 1) := by decide +kernel
theorem dX9_copy_87 : decode cX9_copy 87 = .ok (.getfield 68, 3) := by decide +kernel
theorem dX9_copy_90 : decode cX9_copy 90 = .ok (.iload_n 3, 1) := by decide +kernel
theorem dX9_copy_91 : decode cX9_copy 91 = .ok (.iload 4, 2) := by decide +kernel
theorem dX9_copy_93 : decode cX9_copy 93 = .ok (.iload 5, 2) := by decide +kernel
theorem dX9_copy_95 : decode cX9_copy 95 = .ok (.invokevirtual 286, 3) := by decide +kernel
theorem dX9_copy_98 : decode cX9_copy 98 = .ok (.ifCond .eq 9, 3) := by decide +kernel
theorem dX9_copy_101 : decode cX9_copy 101 = .ok (.aload_n 0, 1) := by decide +kernel
theorem dX9_copy_102 : decode cX9_copy 102 = .ok (.iconst 2, 1) := by decide +kernel
theorem dX9_copy_103 : decode cX9_copy 103 = .ok (.invokevirtual 137, 3) := by decide +kernel
theorem dX9_copy_106 : decode cX9_copy 106 = .ok (.ireturn, 1) := by decide +kernel
theorem dX9_copy_107 : decode cX9_copy 107 = .ok (.aload_n 0, 1) := by decide +kernel
theorem dX9_copy_108 : decode cX9_copy 108 = .ok (.getfield 68, 3) := by decide +kernel
theorem dX9_copy_111 : decode cX9_copy 111 = .ok (.iload_n 1, 1) := by decide +kernel
theorem dX9_copy_112 : decode cX9_copy 112 = .ok (.iload_n 2, 1) := by decide +kernel
theorem dX9_copy_113 : decode cX9_copy 113 = .ok (.iload_n 3, 1) := by decide +kernel
theorem dX9_copy_114 : decode cX9_copy 114 = .ok (.iload 4, 2) := by decide +kernel
theorem dX9_copy_116 : decode cX9_copy 116 = .ok (.iload 5, 2) := by decide +kernel
theorem dX9_copy_118 : decode cX9_copy 118 = .ok (.invokevirtual 290, 3) := by decide +kernel
theorem dX9_copy_121 : decode cX9_copy 121 = .ok (.iconst 1, 1) := by decide +kernel
theorem dX9_copy_122 : decode cX9_copy 122 = .ok (.ireturn, 1) := by decide +kernel
theorem dX9_write_0 : decode cX9_write 0 = .ok (.iload_n 1, 1) := by decide +kernel
theorem dX9_write_1 : decode cX9_write 1 = .ok (.invokestatic 223, 3) := by decide +kernel
theorem dX9_write_4 : decode cX9_write 4 = .ok (.ifCond .ne 10, 3) := by decide +kernel
theorem dX9_write_7 : decode cX9_write 7 = .ok (.iload_n 2, 1) := by decide +kernel
theorem dX9_write_8 : decode cX9_write 8 = .ok (.invokestatic 131, 3) := by decide +kernel
theorem dX9_write_11 : decode cX9_write 11 = .ok (.ifCond .eq 6, 3) := by decide +kernel
theorem dX9_write_14 : decode cX9_write 14 = .ok (.bipush (-2), 2) := by decide +kernel
theorem dX9_write_16 : decode cX9_write 16 = .ok (.ireturn, 1) := by decide +kernel
theorem dX9_write_17 : decode cX9_write 17 = .ok (.aload_n 0, 1) := by decide +kernel
theorem dX9_write_18 : decode cX9_write 18 = .ok (.getfield 68, 3) := by decide +kernel
theorem dX9_write_21 : decode cX9_write 21 = .ok (.iload_n 2, 1) := by decide +kernel
theorem dX9_write_22 : decode cX9_write 22 = .ok (.invokevirtual 134, 3) := by decide +kernel
theorem dX9_write_25 : decode cX9_write 25 = .ok (.ifCond .eq 9, 3) := by decide +kernel
theorem dX9_write_28 : decode cX9_write 28 = .ok (.aload_n 0, 1) := by decide +kernel
theorem dX9_write_29 : decode cX9_write 29 = .ok (.iconst 1, 1) := by decide +kernel
theorem dX9_write_30 : decode cX9_write 30 = .ok (.invokevirtual 137, 3) := by decide +kernel
theorem dX9_write_33 : decode cX9_write 33 = .ok (.ireturn, 1) := by decide +kernel
theorem dX9_write_34 : decode cX9_write 34 = .ok (.aload_n 0, 1) := by decide +kernel
theorem dX9_write_35 : decode cX9_write 35 = .ok (.invokevirtual 113, 3) := by decide +kernel
theorem dX9_write_38 : decode cX9_write 38 = .ok (.iload_n 1, 1) := by decide +kernel
theorem dX9_write_39 : decode cX9_write 39 = .ok (.aload_n 0, 1) := by decide +kernel
theorem dX9_write_40 : decode cX9_write 40 = .ok (.getfield 26, 3) := by decide +kernel
theorem dX9_write_43 : decode cX9_write 43 = .ok (.getfield 214, 3) := by decide +kernel
theorem dX9_write_46 : decode cX9_write 46 = .ok (.if_icmp .le 5, 3) := by decide +kernel
theorem dX9_write_49 : decode cX9_write 49 = .ok (.iconst 0, 1) := by decide +kernel
theorem dX9_write_50 : decode cX9_write 50 = .ok (.ireturn, 1) := by decide +kernel
theorem dX9_write_51 : decode cX9_write 51 = .ok (.aload_n 0, 1) := by decide +kernel
theorem dX9_write_52 : decode cX9_write 52 = .ok (.invokevirtual 217, 3) := by decide +kernel
theorem dX9_write_55 : decode cX9_write 55 = .ok (.iload_n 1, 1) := by decide +kernel
theorem dX9_write_56 : decode cX9_write 56 = .ok (.aload_n 0, 1) := by decide +kernel
theorem dX9_write_57 : decode cX9_write 57 = .ok (.getfield 68, 3) := by decide +kernel
theorem dX9_write_60 : decode cX9_write 60 = .ok (.getfield 276, 3) := by decide +kernel
theorem dX9_write_63 : decode cX9_write 63 = .ok (.iload_n 2, 1) := by decide +kernel
theorem dX9_write_64 : decode cX9_write 64 = .ok (.iaload, 1) := by decide +kernel
theorem dX9_write_65 : decode cX9_write 65 = .ok (.invokestatic 144, 3) := by decide +kernel
theorem dX9_write_68 : decode cX9_write 68 = .ok (.istore_n 3, 1) := by decide +kernel
theorem dX9_write_69 : decode cX9_write 69 = .ok (.iconst 0, 1) := by decide +kernel
theorem dX9_write_70 : decode cX9_write 70 = .ok (.istore 4, 2) := by decide +kernel
theorem dX9_write_72 : decode cX9_write 72 = .ok (.iload 4, 2) := by decide +kernel
theorem dX9_write_74 : decode cX9_write 74 = .ok (.iload_n 3, 1) := by decide +kernel
theorem dX9_write_75 : decode cX9_write 75 = .ok (.if_icmp .ge 36, 3) := by decide +kernel
theorem dX9_write_78 : decode cX9_write 78 = .ok (.aload_n 0, 1) := by decide +kernel
theorem dX9_write_79 : decode cX9_write 79 = .ok (.getfield 68, 3) := by decide +kernel
theorem dX9_write_82 : decode cX9_write 82 = .ok (.iload_n 2, 1) := by decide +kernel
theorem dX9_write_83 : decode cX9_write 83 = .ok (.iload 4, 2) := by decide +kernel
theorem dX9_write_85 : decode cX9_write 85 = .ok (.aload_n 0, 1) := by decide +kernel
theorem dX9_write_86 : decode cX9_write 86 = .ok (.getfield 47, 3) := by decide +kernel
theorem dX9_write_89 : decode cX9_write 89 = .ok (.iload_n 1, 1) := by decide +kernel
theorem dX9_write_90 : decode cX9_write 90 = .ok (.iload 4, 2) := by decide +kernel
theorem dX9_write_92 : decode cX9_write 92 = .ok (.aload_n 0, 1) := by decide +kernel
theorem dX9_write_93 : decode cX9_write 93 = .ok (.getfield 26, 3) := by decide +kernel
theorem dX9_write_96 : decode cX9_write 96 = .ok (.getfield 214, 3) := by decide +kernel
theorem dX9_write_99 : decode cX9_write 99 = .ok (.invokevirtual 229, 3) := by decide +kernel
theorem dX9_write_102 : decode cX9_write 102 = .ok (.invokevirtual 282, 3) := by decide +kernel
theorem dX9_write_105 : decode cX9_write 105 = .ok (.iinc 4 1, 3) := by decide +kernel
theorem dX9_write_108 : decode cX9_write 108 = .ok (.goto (-36), 3) := by decide +kernel
theorem dX9_write_111 : decode cX9_write 111 = .ok (.iload_n 3, 1) := by decide +kernel
theorem dX9_write_112 : decode cX9_write 112 = .ok (.ireturn, 1) := by decide +kernel
theorem dX9_count_0 : decode cX9_count 0 = .ok (.aload_n 0, 1) := by decide +kernel
theorem dX9_count_1 : decode cX9_count 1 = .ok (.invokevirtual 113, 3) := by decide +kernel
theorem dX9_count_4 : decode cX9_count 4 = .ok (.iload_n 1, 1) := by decide +kernel
theorem dX9_count_5 : decode cX9_count 5 = .ok (.tableswitch 112 0 8 #[51, 59, 67, 75, 83, 88, 95, 102, 107], 51) := by decide +kernel
theorem dX9_count_56 : decode cX9_count 56 = .ok (.aload_n 0, 1) := by decide +kernel
theorem dX9_count_57 : decode cX9_count 57 = .ok (.getfield 12, 3) := by decide +kernel
theorem dX9_count_60 : decode cX9_count 60 = .ok (.getfield 103, 3) := by decide +kernel
theorem dX9_count_63 : decode cX9_count 63 = .ok (.ireturn, 1) := by decide +kernel
theorem dX9_count_64 : decode cX9_count 64 = .ok (.aload_n 0, 1) := by decide +kernel
theorem dX9_count_65 : decode cX9_count 65 = .ok (.getfield 26, 3) := by decide +kernel
theorem dX9_count_68 : decode cX9_count 68 = .ok (.getfield 214, 3) := by decide +kernel
theorem dX9_count_71 : decode cX9_count 71 = .ok (.ireturn, 1) := by decide +kernel
theorem dX9_count_72 : decode cX9_count 72 = .ok (.aload_n 0, 1) := by decide +kernel
theorem dX9_count_73 : decode cX9_count 73 = .ok (.getfield 26, 3) := by decide +kernel
theorem dX9_count_76 : decode cX9_count 76 = .ok (.getfield 294, 3) := by decide +kernel
theorem dX9_count_79 : decode cX9_count 79 = .ok (.ireturn, 1) := by decide +kernel
theorem dX9_count_80 : decode cX9_count 80 = .ok (.aload_n 0, 1) := by decide +kernel
theorem dX9_count_81 : decode cX9_count 81 = .ok (.getfield 26, 3) := by decide +kernel
theorem dX9_count_84 : decode cX9_count 84 = .ok (.getfield 297, 3) := by decide +kernel
theorem dX9_count_87 : decode cX9_count 87 = .ok (.ireturn, 1) := by decide +kernel
theorem dX9_count_88 : decode cX9_count 88 = .ok (.aload_n 0, 1) := by decide +kernel
theorem dX9_count_89 : decode cX9_count 89 = .ok (.invokevirtual 300, 3) := by decide +kernel
theorem dX9_count_92 : decode cX9_count 92 = .ok (.ireturn, 1) := by decide +kernel
theorem dX9_count_93 : decode cX9_count 93 = .ok (.aload_n 0, 1) := by decide +kernel
theorem dX9_count_94 : decode cX9_count 94 = .ok (.getfield 72, 3) := by decide +kernel
theorem dX9_count_97 : decode cX9_count 97 = .ok (.iconst 0, 1) := by decide +kernel
theorem dX9_count_98 : decode cX9_count 98 = .ok (.iaload, 1) := by decide +kernel
theorem dX9_count_99 : decode cX9_count 99 = .ok (.ireturn, 1) := by decide +kernel
theorem dX9_count_100 : decode cX9_count 100 = .ok (.aload_n 0, 1) := by decide +kernel
theorem dX9_count_101 : decode cX9_count 101 = .ok (.getfield 72, 3) := by decide +kernel
theorem dX9_count_104 : decode cX9_count 104 = .ok (.iconst 1, 1) := by decide +kernel
theorem dX9_count_105 : decode cX9_count 105 = .ok (.iaload, 1) := by decide +kernel
theorem dX9_count_106 : decode cX9_count 106 = .ok (.ireturn, 1) := by decide +kernel
theorem dX9_count_107 : decode cX9_count 107 = .ok (.aload_n 0, 1) := by decide +kernel
theorem dX9_count_108 : decode cX9_count 108 = .ok (.getfield 76, 3) := by decide +kernel
theorem dX9_count_111 : decode cX9_count 111 = .ok (.ireturn, 1) := by decide +kernel
theorem dX9_count_112 : decode cX9_count 112 = .ok (.aload_n 0, 1) := by decide +kernel
theorem dX9_count_113 : decode cX9_count 113 = .ok (.getfield 80, 3) := by decide +kernel
theorem dX9_count_116 : decode cX9_count 116 = .ok (.ireturn, 1) := by decide +kernel
theorem dX9_count_117 : decode cX9_count 117 = .ok (.bipush (-2), 2) := by decide +kernel
theorem dX9_count_119 : decode cX9_count 119 = .ok (.ireturn, 1) := by decide +kernel
theorem dX9_digest_0 : decode cX9_digest 0 = .ok (.ldc2_w 304, 3) := by decide +kernel
theorem dX9_digest_3 : decode cX9_digest 3 = .ok (.lstore_n 1, 1) := by decide +kernel
theorem dX9_digest_4 : decode cX9_digest 4 = .ok (.iconst 0, 1) := by decide +kernel
theorem dX9_digest_5 : decode cX9_digest 5 = .ok (.istore_n 3, 1) := by decide +kernel
theorem dX9_digest_6 : decode cX9_digest 6 = .ok (.iload_n 3, 1) := by decide +kernel
theorem dX9_digest_7 : decode cX9_digest 7 = .ok (.bipush 7, 2) := by decide +kernel
theorem dX9_digest_9 : decode cX9_digest 9 = .ok (.if_icmp .gt 22, 3) := by decide +kernel
theorem dX9_digest_12 : decode cX9_digest 12 = .ok (.ldc2_w 306, 3) := by decide +kernel
theorem dX9_digest_15 : decode cX9_digest 15 = .ok (.lload_n 1, 1) := by decide +kernel
theorem dX9_digest_16 : decode cX9_digest 16 = .ok (.lmul, 1) := by decide +kernel
theorem dX9_digest_17 : decode cX9_digest 17 = .ok (.aload_n 0, 1) := by decide +kernel
theorem dX9_digest_18 : decode cX9_digest 18 = .ok (.iload_n 3, 1) := by decide +kernel
theorem dX9_digest_19 : decode cX9_digest 19 = .ok (.invokevirtual 308, 3) := by decide +kernel
theorem dX9_digest_22 : decode cX9_digest 22 = .ok (.i2l, 1) := by decide +kernel
theorem dX9_digest_23 : decode cX9_digest 23 = .ok (.ladd, 1) := by decide +kernel
theorem dX9_digest_24 : decode cX9_digest 24 = .ok (.lstore_n 1, 1) := by decide +kernel
theorem dX9_digest_25 : decode cX9_digest 25 = .ok (.iinc 3 1, 3) := by decide +kernel
theorem dX9_digest_28 : decode cX9_digest 28 = .ok (.goto (-22), 3) := by decide +kernel
theorem dX9_digest_31 : decode cX9_digest 31 = .ok (.iconst 0, 1) := by decide +kernel
theorem dX9_digest_32 : decode cX9_digest 32 = .ok (.istore_n 3, 1) := by decide +kernel
theorem dX9_digest_33 : decode cX9_digest 33 = .ok (.iload_n 3, 1) := by decide +kernel
theorem dX9_digest_34 : decode cX9_digest 34 = .ok (.iconst 2, 1) := by decide +kernel
theorem dX9_digest_35 : decode cX9_digest 35 = .ok (.if_icmp .gt 22, 3) := by decide +kernel
theorem dX9_digest_38 : decode cX9_digest 38 = .ok (.ldc2_w 306, 3) := by decide +kernel
theorem dX9_digest_41 : decode cX9_digest 41 = .ok (.lload_n 1, 1) := by decide +kernel
theorem dX9_digest_42 : decode cX9_digest 42 = .ok (.lmul, 1) := by decide +kernel
theorem dX9_digest_43 : decode cX9_digest 43 = .ok (.aload_n 0, 1) := by decide +kernel
theorem dX9_digest_44 : decode cX9_digest 44 = .ok (.iload_n 3, 1) := by decide +kernel
theorem dX9_digest_45 : decode cX9_digest 45 = .ok (.invokevirtual 311, 3) := by decide +kernel
theorem dX9_digest_48 : decode cX9_digest 48 = .ok (.i2l, 1) := by decide +kernel
theorem dX9_digest_49 : decode cX9_digest 49 = .ok (.ladd, 1) := by decide +kernel
theorem dX9_digest_50 : decode cX9_digest 50 = .ok (.lstore_n 1, 1) := by decide +kernel
theorem dX9_digest_51 : decode cX9_digest 51 = .ok (.iinc 3 1, 3) := by decide +kernel
theorem dX9_digest_54 : decode cX9_digest 54 = .ok (.goto (-21), 3) := by decide +kernel
theorem dX9_digest_57 : decode cX9_digest 57 = .ok (.iconst 0, 1) := by decide +kernel
theorem dX9_digest_58 : decode cX9_digest 58 = .ok (.istore_n 3, 1) := by decide +kernel
theorem dX9_digest_59 : decode cX9_digest 59 = .ok (.iload_n 3, 1) := by decide +kernel
theorem dX9_digest_60 : decode cX9_digest 60 = .ok (.bipush 12, 2) := by decide +kernel
theorem dX9_digest_62 : decode cX9_digest 62 = .ok (.if_icmp .ge 16, 3) := by decide +kernel
theorem dX9_digest_65 : decode cX9_digest 65 = .ok (.aload_n 0, 1) := by decide +kernel
theorem dX9_digest_66 : decode cX9_digest 66 = .ok (.lload_n 1, 1) := by decide +kernel
theorem dX9_digest_67 : decode cX9_digest 67 = .ok (.iload_n 3, 1) := by decide +kernel
theorem dX9_digest_68 : decode cX9_digest 68 = .ok (.invokevirtual 314, 3) := by decide +kernel
theorem dX9_digest_71 : decode cX9_digest 71 = .ok (.lstore_n 1, 1) := by decide +kernel
theorem dX9_digest_72 : decode cX9_digest 72 = .ok (.iinc 3 1, 3) := by decide +kernel
theorem dX9_digest_75 : decode cX9_digest 75 = .ok (.goto (-16), 3) := by decide +kernel
theorem dX9_digest_78 : decode cX9_digest 78 = .ok (.iconst 0, 1) := by decide +kernel
theorem dX9_digest_79 : decode cX9_digest 79 = .ok (.istore_n 3, 1) := by decide +kernel
theorem dX9_digest_80 : decode cX9_digest 80 = .ok (.iload_n 3, 1) := by decide +kernel
theorem dX9_digest_81 : decode cX9_digest 81 = .ok (.aload_n 0, 1) := by decide +kernel
theorem dX9_digest_82 : decode cX9_digest 82 = .ok (.getfield 26, 3) := by decide +kernel
theorem dX9_digest_85 : decode cX9_digest 85 = .ok (.getfield 297, 3) := by decide +kernel
theorem dX9_digest_88 : decode cX9_digest 88 = .ok (.if_icmp .ge 16, 3) := by decide +kernel
theorem dX9_digest_91 : decode cX9_digest 91 = .ok (.aload_n 0, 1) := by decide +kernel
theorem dX9_digest_92 : decode cX9_digest 92 = .ok (.lload_n 1, 1) := by decide +kernel
theorem dX9_digest_93 : decode cX9_digest 93 = .ok (.iload_n 3, 1) := by decide +kernel
theorem dX9_digest_94 : decode cX9_digest 94 = .ok (.invokevirtual 318, 3) := by decide +kernel
theorem dX9_digest_97 : decode cX9_digest 97 = .ok (.lstore_n 1, 1) := by decide +kernel
theorem dX9_digest_98 : decode cX9_digest 98 = .ok (.iinc 3 1, 3) := by decide +kernel
theorem dX9_digest_101 : decode cX9_digest 101 = .ok (.goto (-21), 3) := by decide +kernel
theorem dX9_digest_104 : decode cX9_digest 104 = .ok (.iconst 0, 1) := by decide +kernel
theorem dX9_digest_105 : decode cX9_digest 105 = .ok (.istore_n 3, 1) := by decide +kernel
theorem dX9_digest_106 : decode cX9_digest 106 = .ok (.iload_n 3, 1) := by decide +kernel
theorem dX9_digest_107 : decode cX9_digest 107 = .ok (.bipush 9, 2) := by decide +kernel
theorem dX9_digest_109 : decode cX9_digest 109 = .ok (.if_icmp .gt 39, 3) := by decide +kernel
theorem dX9_digest_112 : decode cX9_digest 112 = .ok (.iconst 0, 1) := by decide +kernel
theorem dX9_digest_113 : decode cX9_digest 113 = .ok (.istore 4, 2) := by decide +kernel
theorem dX9_digest_115 : decode cX9_digest 115 = .ok (.iload 4, 2) := by decide +kernel
theorem dX9_digest_117 : decode cX9_digest 117 = .ok (.iconst 4, 1) := by decide +kernel
theorem dX9_digest_118 : decode cX9_digest 118 = .ok (.if_icmp .gt 24, 3) := by decide +kernel
theorem dX9_digest_121 : decode cX9_digest 121 = .ok (.ldc2_w 306, 3) := by decide +kernel
theorem dX9_digest_124 : decode cX9_digest 124 = .ok (.lload_n 1, 1) := by decide +kernel
theorem dX9_digest_125 : decode cX9_digest 125 = .ok (.lmul, 1) := by decide +kernel
theorem dX9_digest_126 : decode cX9_digest 126 = .ok (.aload_n 0, 1) := by decide +kernel
theorem dX9_digest_127 : decode cX9_digest 127 = .ok (.iload_n 3, 1) := by decide +kernel
theorem dX9_digest_128 : decode cX9_digest 128 = .ok (.iload 4, 2) := by decide +kernel
theorem dX9_digest_130 : decode cX9_digest 130 = .ok (.invokevirtual 321, 3) := by decide +kernel
theorem dX9_digest_133 : decode cX9_digest 133 = .ok (.i2l, 1) := by decide +kernel
theorem dX9_digest_134 : decode cX9_digest 134 = .ok (.ladd, 1) := by decide +kernel
theorem dX9_digest_135 : decode cX9_digest 135 = .ok (.lstore_n 1, 1) := by decide +kernel
theorem dX9_digest_136 : decode cX9_digest 136 = .ok (.iinc 4 1, 3) := by decide +kernel
theorem dX9_digest_139 : decode cX9_digest 139 = .ok (.goto (-24), 3) := by decide +kernel
theorem dX9_digest_142 : decode cX9_digest 142 = .ok (.iinc 3 1, 3) := by decide +kernel
theorem dX9_digest_145 : decode cX9_digest 145 = .ok (.goto (-39), 3) := by decide +kernel
theorem dX9_digest_148 : decode cX9_digest 148 = .ok (.iconst 0, 1) := by decide +kernel
theorem dX9_digest_149 : decode cX9_digest 149 = .ok (.istore_n 3, 1) := by decide +kernel
theorem dX9_digest_150 : decode cX9_digest 150 = .ok (.iload_n 3, 1) := by decide +kernel
theorem dX9_digest_151 : decode cX9_digest 151 = .ok (.aload_n 0, 1) := by decide +kernel
theorem dX9_digest_152 : decode cX9_digest 152 = .ok (.getfield 26, 3) := by decide +kernel
theorem dX9_digest_155 : decode cX9_digest 155 = .ok (.getfield 214, 3) := by decide +kernel
theorem dX9_digest_158 : decode cX9_digest 158 = .ok (.if_icmp .ge 43, 3) := by decide +kernel
theorem dX9_digest_161 : decode cX9_digest 161 = .ok (.ldc2_w 306, 3) := by decide +kernel
theorem dX9_digest_164 : decode cX9_digest 164 = .ok (.lload_n 1, 1) := by decide +kernel
theorem dX9_digest_165 : decode cX9_digest 165 = .ok (.lmul, 1) := by decide +kernel
theorem dX9_digest_166 : decode cX9_digest 166 = .ok (.aload_n 0, 1) := by decide +kernel
theorem dX9_digest_167 : decode cX9_digest 167 = .ok (.iconst 0, 1) := by decide +kernel
theorem dX9_digest_168 : decode cX9_digest 168 = .ok (.iload_n 3, 1) := by decide +kernel
theorem dX9_digest_169 : decode cX9_digest 169 = .ok (.invokevirtual 324, 3) := by decide +kernel
theorem dX9_digest_172 : decode cX9_digest 172 = .ok (.i2l, 1) := by decide +kernel
theorem dX9_digest_173 : decode cX9_digest 173 = .ok (.ladd, 1) := by decide +kernel
theorem dX9_digest_174 : decode cX9_digest 174 = .ok (.lstore_n 1, 1) := by decide +kernel
theorem dX9_digest_175 : decode cX9_digest 175 = .ok (.ldc2_w 306, 3) := by decide +kernel
theorem dX9_digest_178 : decode cX9_digest 178 = .ok (.lload_n 1, 1) := by decide +kernel
theorem dX9_digest_179 : decode cX9_digest 179 = .ok (.lmul, 1) := by decide +kernel
theorem dX9_digest_180 : decode cX9_digest 180 = .ok (.aload_n 0, 1) := by decide +kernel
theorem dX9_digest_181 : decode cX9_digest 181 = .ok (.iload_n 3, 1) := by decide +kernel
theorem dX9_digest_182 : decode cX9_digest 182 = .ok (.aload_n 0, 1) := by decide +kernel
theorem dX9_digest_183 : decode cX9_digest 183 = .ok (.getfield 26, 3) := by decide +kernel
theorem dX9_digest_186 : decode cX9_digest 186 = .ok (.getfield 214, 3) := by decide +kernel
theorem dX9_digest_189 : decode cX9_digest 189 = .ok (.invokevirtual 324, 3) := by decide +kernel
theorem dX9_digest_192 : decode cX9_digest 192 = .ok (.i2l, 1) := by decide +kernel
theorem dX9_digest_193 : decode cX9_digest 193 = .ok (.ladd, 1) := by decide +kernel
theorem dX9_digest_194 : decode cX9_digest 194 = .ok (.lstore_n 1, 1) := by decide +kernel
theorem dX9_digest_195 : decode cX9_digest 195 = .ok (.iinc 3 1, 3) := by decide +kernel
theorem dX9_digest_198 : decode cX9_digest 198 = .ok (.goto (-48), 3) := by decide +kernel
theorem dX9_digest_201 : decode cX9_digest 201 = .ok (.iconst 1, 1) := by decide +kernel
theorem dX9_digest_202 : decode cX9_digest 202 = .ok (.istore_n 3, 1) := by decide +kernel
theorem dX9_digest_203 : decode cX9_digest 203 = .ok (.iload_n 3, 1) := by decide +kernel
theorem dX9_digest_204 : decode cX9_digest 204 = .ok (.bipush 8, 2) := by decide +kernel
theorem dX9_digest_206 : decode cX9_digest 206 = .ok (.if_icmp .gt 16, 3) := by decide +kernel
theorem dX9_digest_209 : decode cX9_digest 209 = .ok (.aload_n 0, 1) := by decide +kernel
theorem dX9_digest_210 : decode cX9_digest 210 = .ok (.lload_n 1, 1) := by decide +kernel
theorem dX9_digest_211 : decode cX9_digest 211 = .ok (.iload_n 3, 1) := by decide +kernel
theorem dX9_digest_212 : decode cX9_digest 212 = .ok (.invokevirtual 327, 3) := by decide +kernel
theorem dX9_digest_215 : decode cX9_digest 215 = .ok (.lstore_n 1, 1) := by decide +kernel
theorem dX9_digest_216 : decode cX9_digest 216 = .ok (.iinc 3 1, 3) := by decide +kernel
theorem dX9_digest_219 : decode cX9_digest 219 = .ok (.goto (-16), 3) := by decide +kernel
theorem dX9_digest_222 : decode cX9_digest 222 = .ok (.ldc2_w 306, 3) := by decide +kernel
theorem dX9_digest_225 : decode cX9_digest 225 = .ok (.lload_n 1, 1) := by decide +kernel
theorem dX9_digest_226 : decode cX9_digest 226 = .ok (.lmul, 1) := by decide +kernel
theorem dX9_digest_227 : decode cX9_digest 227 = .ok (.aload_n 0, 1) := by decide +kernel
theorem dX9_digest_228 : decode cX9_digest 228 = .ok (.invokevirtual 330, 3) := by decide +kernel
theorem dX9_digest_231 : decode cX9_digest 231 = .ok (.i2l, 1) := by decide +kernel
theorem dX9_digest_232 : decode cX9_digest 232 = .ok (.ladd, 1) := by decide +kernel
theorem dX9_digest_233 : decode cX9_digest 233 = .ok (.lreturn, 1) := by decide +kernel
theorem dX9_mixSentence_0 : decode cX9_mixSentence 0 = .ok (.lload_n 1, 1) := by decide +kernel
theorem dX9_mixSentence_1 : decode cX9_mixSentence 1 = .ok (.lstore 4, 2) := by decide +kernel
theorem dX9_mixSentence_3 : decode cX9_mixSentence 3 = .ok (.iconst 0, 1) := by decide +kernel
theorem dX9_mixSentence_4 : decode cX9_mixSentence 4 = .ok (.istore 6, 2) := by decide +kernel
theorem dX9_mixSentence_6 : decode cX9_mixSentence 6 = .ok (.iload 6, 2) := by decide +kernel
theorem dX9_mixSentence_8 : decode cX9_mixSentence 8 = .ok (.iconst 3, 1) := by decide +kernel
theorem dX9_mixSentence_9 : decode cX9_mixSentence 9 = .ok (.if_icmp .gt 26, 3) := by decide +kernel
theorem dX9_mixSentence_12 : decode cX9_mixSentence 12 = .ok (.ldc2_w 306, 3) := by decide +kernel
theorem dX9_mixSentence_15 : decode cX9_mixSentence 15 = .ok (.lload 4, 2) := by decide +kernel
theorem dX9_mixSentence_17 : decode cX9_mixSentence 17 = .ok (.lmul, 1) := by decide +kernel
theorem dX9_mixSentence_18 : decode cX9_mixSentence 18 = .ok (.aload_n 0, 1) := by decide +kernel
theorem dX9_mixSentence_19 : decode cX9_mixSentence 19 = .ok (.iload_n 3, 1) := by decide +kernel
theorem dX9_mixSentence_20 : decode cX9_mixSentence 20 = .ok (.iload 6, 2) := by decide +kernel
theorem dX9_mixSentence_22 : decode cX9_mixSentence 22 = .ok (.invokevirtual 333, 3) := by decide +kernel
theorem dX9_mixSentence_25 : decode cX9_mixSentence 25 = .ok (.i2l, 1) := by decide +kernel
theorem dX9_mixSentence_26 : decode cX9_mixSentence 26 = .ok (.ladd, 1) := by decide +kernel
theorem dX9_mixSentence_27 : decode cX9_mixSentence 27 = .ok (.lstore 4, 2) := by decide +kernel
theorem dX9_mixSentence_29 : decode cX9_mixSentence 29 = .ok (.iinc 6 1, 3) := by decide +kernel
theorem dX9_mixSentence_32 : decode cX9_mixSentence 32 = .ok (.goto (-26), 3) := by decide +kernel
theorem dX9_mixSentence_35 : decode cX9_mixSentence 35 = .ok (.ldc2_w 306, 3) := by decide +kernel
theorem dX9_mixSentence_38 : decode cX9_mixSentence 38 = .ok (.lload 4, 2) := by decide +kernel
theorem dX9_mixSentence_40 : decode cX9_mixSentence 40 = .ok (.lmul, 1) := by decide +kernel
theorem dX9_mixSentence_41 : decode cX9_mixSentence 41 = .ok (.aload_n 0, 1) := by decide +kernel
theorem dX9_mixSentence_42 : decode cX9_mixSentence 42 = .ok (.iload_n 3, 1) := by decide +kernel
theorem dX9_mixSentence_43 : decode cX9_mixSentence 43 = .ok (.iconst 0, 1) := by decide +kernel
theorem dX9_mixSentence_44 : decode cX9_mixSentence 44 = .ok (.invokevirtual 336, 3) := by decide +kernel
theorem dX9_mixSentence_47 : decode cX9_mixSentence 47 = .ok (.i2l, 1) := by decide +kernel
theorem dX9_mixSentence_48 : decode cX9_mixSentence 48 = .ok (.ladd, 1) := by decide +kernel
theorem dX9_mixSentence_49 : decode cX9_mixSentence 49 = .ok (.lstore 4, 2) := by decide +kernel
theorem dX9_mixSentence_51 : decode cX9_mixSentence 51 = .ok (.ldc2_w 306, 3) := by decide +kernel
theorem dX9_mixSentence_54 : decode cX9_mixSentence 54 = .ok (.lload 4, 2) := by decide +kernel
theorem dX9_mixSentence_56 : decode cX9_mixSentence 56 = .ok (.lmul, 1) := by decide +kernel
theorem dX9_mixSentence_57 : decode cX9_mixSentence 57 = .ok (.aload_n 0, 1) := by decide +kernel
theorem dX9_mixSentence_58 : decode cX9_mixSentence 58 = .ok (.iload_n 3, 1) := by decide +kernel
theorem dX9_mixSentence_59 : decode cX9_mixSentence 59 = .ok (.iconst 2, 1) := by decide +kernel
theorem dX9_mixSentence_60 : decode cX9_mixSentence 60 = .ok (.invokevirtual 336, 3) := by decide +kernel
theorem dX9_mixSentence_63 : decode cX9_mixSentence 63 = .ok (.i2l, 1) := by decide +kernel
theorem dX9_mixSentence_64 : decode cX9_mixSentence 64 = .ok (.ladd, 1) := by decide +kernel
theorem dX9_mixSentence_65 : decode cX9_mixSentence 65 = .ok (.lstore 4, 2) := by decide +kernel
theorem dX9_mixSentence_67 : decode cX9_mixSentence 67 = .ok (.ldc2_w 306, 3) := by decide +kernel
theorem dX9_mixSentence_70 : decode cX9_mixSentence 70 = .ok (.lload 4, 2) := by decide +kernel
theorem dX9_mixSentence_72 : decode cX9_mixSentence 72 = .ok (.lmul, 1) := by decide +kernel
theorem dX9_mixSentence_73 : decode cX9_mixSentence 73 = .ok (.aload_n 0, 1) := by decide +kernel
theorem dX9_mixSentence_74 : decode cX9_mixSentence 74 = .ok (.iload_n 3, 1) := by decide +kernel
theorem dX9_mixSentence_75 : decode cX9_mixSentence 75 = .ok (.iconst 0, 1) := by decide +kernel
theorem dX9_mixSentence_76 : decode cX9_mixSentence 76 = .ok (.invokevirtual 339, 3) := by decide +kernel
theorem dX9_mixSentence_79 : decode cX9_mixSentence 79 = .ok (.i2l, 1) := by decide +kernel
theorem dX9_mixSentence_80 : decode cX9_mixSentence 80 = .ok (.ladd, 1) := by decide +kernel
theorem dX9_mixSentence_81 : decode cX9_mixSentence 81 = .ok (.lstore 4, 2) := by decide +kernel
theorem dX9_mixSentence_83 : decode cX9_mixSentence 83 = .ok (.ldc2_w 306, 3) := by decide +kernel
theorem dX9_mixSentence_86 : decode cX9_mixSentence 86 = .ok (.lload 4, 2) := by decide +kernel
theorem dX9_mixSentence_88 : decode cX9_mixSentence 88 = .ok (.lmul, 1) := by decide +kernel
theorem dX9_mixSentence_89 : decode cX9_mixSentence 89 = .ok (.aload_n 0, 1) := by decide +kernel
theorem dX9_mixSentence_90 : decode cX9_mixSentence 90 = .ok (.iload_n 3, 1) := by decide +kernel
theorem dX9_mixSentence_91 : decode cX9_mixSentence 91 = .ok (.iconst 1, 1) := by decide +kernel
theorem dX9_mixSentence_92 : decode cX9_mixSentence 92 = .ok (.invokevirtual 339, 3) := by decide +kernel
theorem dX9_mixSentence_95 : decode cX9_mixSentence 95 = .ok (.i2l, 1) := by decide +kernel
theorem dX9_mixSentence_96 : decode cX9_mixSentence 96 = .ok (.ladd, 1) := by decide +kernel
theorem dX9_mixSentence_97 : decode cX9_mixSentence 97 = .ok (.lstore 4, 2) := by decide +kernel
theorem dX9_mixSentence_99 : decode cX9_mixSentence 99 = .ok (.ldc2_w 306, 3) := by decide +kernel
theorem dX9_mixSentence_102 : decode cX9_mixSentence 102 = .ok (.lload 4, 2) := by decide +kernel
theorem dX9_mixSentence_104 : decode cX9_mixSentence 104 = .ok (.lmul, 1) := by decide +kernel
theorem dX9_mixSentence_105 : decode cX9_mixSentence 105 = .ok (.aload_n 0, 1) := by decide +kernel
theorem dX9_mixSentence_106 : decode cX9_mixSentence 106 = .ok (.iload_n 3, 1) := by decide +kernel
theorem dX9_mixSentence_107 : decode cX9_mixSentence 107 = .ok (.iconst 0, 1) := by decide +kernel
theorem dX9_mixSentence_108 : decode cX9_mixSentence 108 = .ok (.invokevirtual 342, 3) := by decide +kernel
theorem dX9_mixSentence_111 : decode cX9_mixSentence 111 = .ok (.i2l, 1) := by decide +kernel
theorem dX9_mixSentence_112 : decode cX9_mixSentence 112 = .ok (.ladd, 1) := by decide +kernel
theorem dX9_mixSentence_113 : decode cX9_mixSentence 113 = .ok (.lstore 4, 2) := by decide +kernel
theorem dX9_mixSentence_115 : decode cX9_mixSentence 115 = .ok (.ldc2_w 306, 3) := by decide +kernel
theorem dX9_mixSentence_118 : decode cX9_mixSentence 118 = .ok (.lload 4, 2) := by decide +kernel
theorem dX9_mixSentence_120 : decode cX9_mixSentence 120 = .ok (.lmul, 1) := by decide +kernel
theorem dX9_mixSentence_121 : decode cX9_mixSentence 121 = .ok (.aload_n 0, 1) := by decide +kernel
theorem dX9_mixSentence_122 : decode cX9_mixSentence 122 = .ok (.iload_n 3, 1) := by decide +kernel
theorem dX9_mixSentence_123 : decode cX9_mixSentence 123 = .ok (.iconst 1, 1) := by decide +kernel
theorem dX9_mixSentence_124 : decode cX9_mixSentence 124 = .ok (.invokevirtual 342, 3) := by decide +kernel
theorem dX9_mixSentence_127 : decode cX9_mixSentence 127 = .ok (.i2l, 1) := by decide +kernel
theorem dX9_mixSentence_128 : decode cX9_mixSentence 128 = .ok (.ladd, 1) := by decide +kernel
theorem dX9_mixSentence_129 : decode cX9_mixSentence 129 = .ok (.lstore 4, 2) := by decide +kernel
theorem dX9_mixSentence_131 : decode cX9_mixSentence 131 = .ok (.ldc2_w 306, 3) := by decide +kernel
theorem dX9_mixSentence_134 : decode cX9_mixSentence 134 = .ok (.lload 4, 2) := by decide +kernel
theorem dX9_mixSentence_136 : decode cX9_mixSentence 136 = .ok (.lmul, 1) := by decide +kernel
theorem dX9_mixSentence_137 : decode cX9_mixSentence 137 = .ok (.aload_n 0, 1) := by decide +kernel
theorem dX9_mixSentence_138 : decode cX9_mixSentence 138 = .ok (.iload_n 3, 1) := by decide +kernel
theorem dX9_mixSentence_139 : decode cX9_mixSentence 139 = .ok (.invokevirtual 345, 3) := by decide +kernel
theorem dX9_mixSentence_142 : decode cX9_mixSentence 142 = .ok (.i2l, 1) := by decide +kernel
theorem dX9_mixSentence_143 : decode cX9_mixSentence 143 = .ok (.ladd, 1) := by decide +kernel
theorem dX9_mixSentence_144 : decode cX9_mixSentence 144 = .ok (.lreturn, 1) := by decide +kernel
theorem dX9_mixStem_0 : decode cX9_mixStem 0 = .ok (.lload_n 1, 1) := by decide +kernel
theorem dX9_mixStem_1 : decode cX9_mixStem 1 = .ok (.lstore 4, 2) := by decide +kernel
theorem dX9_mixStem_3 : decode cX9_mixStem 3 = .ok (.iconst 0, 1) := by decide +kernel
theorem dX9_mixStem_4 : decode cX9_mixStem 4 = .ok (.istore 6, 2) := by decide +kernel
theorem dX9_mixStem_6 : decode cX9_mixStem 6 = .ok (.iload 6, 2) := by decide +kernel
theorem dX9_mixStem_8 : decode cX9_mixStem 8 = .ok (.iconst 3, 1) := by decide +kernel
theorem dX9_mixStem_9 : decode cX9_mixStem 9 = .ok (.if_icmp .gt 26, 3) := by decide +kernel
theorem dX9_mixStem_12 : decode cX9_mixStem 12 = .ok (.ldc2_w 306, 3) := by decide +kernel
theorem dX9_mixStem_15 : decode cX9_mixStem 15 = .ok (.lload 4, 2) := by decide +kernel
theorem dX9_mixStem_17 : decode cX9_mixStem 17 = .ok (.lmul, 1) := by decide +kernel
theorem dX9_mixStem_18 : decode cX9_mixStem 18 = .ok (.aload_n 0, 1) := by decide +kernel
theorem dX9_mixStem_19 : decode cX9_mixStem 19 = .ok (.iload_n 3, 1) := by decide +kernel
theorem dX9_mixStem_20 : decode cX9_mixStem 20 = .ok (.iload 6, 2) := by decide +kernel
theorem dX9_mixStem_22 : decode cX9_mixStem 22 = .ok (.invokevirtual 348, 3) := by decide +kernel
theorem dX9_mixStem_25 : decode cX9_mixStem 25 = .ok (.i2l, 1) := by decide +kernel
theorem dX9_mixStem_26 : decode cX9_mixStem 26 = .ok (.ladd, 1) := by decide +kernel
theorem dX9_mixStem_27 : decode cX9_mixStem 27 = .ok (.lstore 4, 2) := by decide +kernel
theorem dX9_mixStem_29 : decode cX9_mixStem 29 = .ok (.iinc 6 1, 3) := by decide +kernel
theorem dX9_mixStem_32 : decode cX9_mixStem 32 = .ok (.goto (-26), 3) := by decide +kernel
theorem dX9_mixStem_35 : decode cX9_mixStem 35 = .ok (.ldc2_w 306, 3) := by decide +kernel
theorem dX9_mixStem_38 : decode cX9_mixStem 38 = .ok (.lload 4, 2) := by decide +kernel
theorem dX9_mixStem_40 : decode cX9_mixStem 40 = .ok (.lmul, 1) := by decide +kernel
theorem dX9_mixStem_41 : decode cX9_mixStem 41 = .ok (.aload_n 0, 1) := by decide +kernel
theorem dX9_mixStem_42 : decode cX9_mixStem 42 = .ok (.iload_n 3, 1) := by decide +kernel
theorem dX9_mixStem_43 : decode cX9_mixStem 43 = .ok (.iconst 0, 1) := by decide +kernel
theorem dX9_mixStem_44 : decode cX9_mixStem 44 = .ok (.invokevirtual 351, 3) := by decide +kernel
theorem dX9_mixStem_47 : decode cX9_mixStem 47 = .ok (.i2l, 1) := by decide +kernel
theorem dX9_mixStem_48 : decode cX9_mixStem 48 = .ok (.ladd, 1) := by decide +kernel
theorem dX9_mixStem_49 : decode cX9_mixStem 49 = .ok (.lstore 4, 2) := by decide +kernel
theorem dX9_mixStem_51 : decode cX9_mixStem 51 = .ok (.ldc2_w 306, 3) := by decide +kernel
theorem dX9_mixStem_54 : decode cX9_mixStem 54 = .ok (.lload 4, 2) := by decide +kernel
theorem dX9_mixStem_56 : decode cX9_mixStem 56 = .ok (.lmul, 1) := by decide +kernel
theorem dX9_mixStem_57 : decode cX9_mixStem 57 = .ok (.aload_n 0, 1) := by decide +kernel
theorem dX9_mixStem_58 : decode cX9_mixStem 58 = .ok (.iload_n 3, 1) := by decide +kernel
theorem dX9_mixStem_59 : decode cX9_mixStem 59 = .ok (.iconst 3, 1) := by decide +kernel
theorem dX9_mixStem_60 : decode cX9_mixStem 60 = .ok (.invokevirtual 351, 3) := by decide +kernel
theorem dX9_mixStem_63 : decode cX9_mixStem 63 = .ok (.i2l, 1) := by decide +kernel
theorem dX9_mixStem_64 : decode cX9_mixStem 64 = .ok (.ladd, 1) := by decide +kernel
theorem dX9_mixStem_65 : decode cX9_mixStem 65 = .ok (.lreturn, 1) := by decide +kernel
theorem dX9_mixParting_0 : decode cX9_mixParting 0 = .ok (.ldc2_w 306, 3) := by decide +kernel
theorem dX9_mixParting_3 : decode cX9_mixParting 3 = .ok (.lload_n 1, 1) := by decide +kernel
theorem dX9_mixParting_4 : decode cX9_mixParting 4 = .ok (.lmul, 1) := by decide +kernel
theorem dX9_mixParting_5 : decode cX9_mixParting 5 = .ok (.aload_n 0, 1) := by decide +kernel
theorem dX9_mixParting_6 : decode cX9_mixParting 6 = .ok (.iload_n 3, 1) := by decide +kernel
theorem dX9_mixParting_7 : decode cX9_mixParting 7 = .ok (.invokevirtual 354, 3) := by decide +kernel
theorem dX9_mixParting_10 : decode cX9_mixParting 10 = .ok (.i2l, 1) := by decide +kernel
theorem dX9_mixParting_11 : decode cX9_mixParting 11 = .ok (.ladd, 1) := by decide +kernel
theorem dX9_mixParting_12 : decode cX9_mixParting 12 = .ok (.lstore 4, 2) := by decide +kernel
theorem dX9_mixParting_14 : decode cX9_mixParting 14 = .ok (.iconst 0, 1) := by decide +kernel
theorem dX9_mixParting_15 : decode cX9_mixParting 15 = .ok (.istore 6, 2) := by decide +kernel
theorem dX9_mixParting_17 : decode cX9_mixParting 17 = .ok (.iload 6, 2) := by decide +kernel
theorem dX9_mixParting_19 : decode cX9_mixParting 19 = .ok (.bipush 8, 2) := by decide +kernel
theorem dX9_mixParting_21 : decode cX9_mixParting 21 = .ok (.if_icmp .ge 26, 3) := by decide +kernel
theorem dX9_mixParting_24 : decode cX9_mixParting 24 = .ok (.ldc2_w 306, 3) := by decide +kernel
theorem dX9_mixParting_27 : decode cX9_mixParting 27 = .ok (.lload 4, 2) := by decide +kernel
theorem dX9_mixParting_29 : decode cX9_mixParting 29 = .ok (.lmul, 1) := by decide +kernel
theorem dX9_mixParting_30 : decode cX9_mixParting 30 = .ok (.aload_n 0, 1) := by decide +kernel
theorem dX9_mixParting_31 : decode cX9_mixParting 31 = .ok (.iload_n 3, 1) := by decide +kernel
theorem dX9_mixParting_32 : decode cX9_mixParting 32 = .ok (.iload 6, 2) := by decide +kernel
theorem dX9_mixParting_34 : decode cX9_mixParting 34 = .ok (.invokevirtual 357, 3) := by decide +kernel
theorem dX9_mixParting_37 : decode cX9_mixParting 37 = .ok (.i2l, 1) := by decide +kernel
theorem dX9_mixParting_38 : decode cX9_mixParting 38 = .ok (.ladd, 1) := by decide +kernel
theorem dX9_mixParting_39 : decode cX9_mixParting 39 = .ok (.lstore 4, 2) := by decide +kernel
theorem dX9_mixParting_41 : decode cX9_mixParting 41 = .ok (.iinc 6 1, 3) := by decide +kernel
theorem dX9_mixParting_44 : decode cX9_mixParting 44 = .ok (.goto (-27), 3) := by decide +kernel
theorem dX9_mixParting_47 : decode cX9_mixParting 47 = .ok (.ldc2_w 306, 3) := by decide +kernel
theorem dX9_mixParting_50 : decode cX9_mixParting 50 = .ok (.lload 4, 2) := by decide +kernel
theorem dX9_mixParting_52 : decode cX9_mixParting 52 = .ok (.lmul, 1) := by decide +kernel
theorem dX9_mixParting_53 : decode cX9_mixParting 53 = .ok (.aload_n 0, 1) := by decide +kernel
theorem dX9_mixParting_54 : decode cX9_mixParting 54 = .ok (.iload_n 3, 1) := by decide +kernel
theorem dX9_mixParting_55 : decode cX9_mixParting 55 = .ok (.iconst 0, 1) := by decide +kernel
theorem dX9_mixParting_56 : decode cX9_mixParting 56 = .ok (.invokevirtual 360, 3) := by decide +kernel
theorem dX9_mixParting_59 : decode cX9_mixParting 59 = .ok (.i2l, 1) := by decide +kernel
theorem dX9_mixParting_60 : decode cX9_mixParting 60 = .ok (.ladd, 1) := by decide +kernel
theorem dX9_mixParting_61 : decode cX9_mixParting 61 = .ok (.lstore 4, 2) := by decide +kernel
theorem dX9_mixParting_63 : decode cX9_mixParting 63 = .ok (.ldc2_w 306, 3) := by decide +kernel
theorem dX9_mixParting_66 : decode cX9_mixParting 66 = .ok (.lload 4, 2) := by decide +kernel
theorem dX9_mixParting_68 : decode cX9_mixParting 68 = .ok (.lmul, 1) := by decide +kernel
theorem dX9_mixParting_69 : decode cX9_mixParting 69 = .ok (.aload_n 0, 1) := by decide +kernel
theorem dX9_mixParting_70 : decode cX9_mixParting 70 = .ok (.iload_n 3, 1) := by decide +kernel
theorem dX9_mixParting_71 : decode cX9_mixParting 71 = .ok (.iconst 1, 1) := by decide +kernel
theorem dX9_mixParting_72 : decode cX9_mixParting 72 = .ok (.invokevirtual 360, 3) := by decide +kernel
theorem dX9_mixParting_75 : decode cX9_mixParting 75 = .ok (.i2l, 1) := by decide +kernel
theorem dX9_mixParting_76 : decode cX9_mixParting 76 = .ok (.ladd, 1) := by decide +kernel
theorem dX9_mixParting_77 : decode cX9_mixParting 77 = .ok (.lstore 4, 2) := by decide +kernel
theorem dX9_mixParting_79 : decode cX9_mixParting 79 = .ok (.ldc2_w 306, 3) := by decide +kernel
theorem dX9_mixParting_82 : decode cX9_mixParting 82 = .ok (.lload 4, 2) := by decide +kernel
theorem dX9_mixParting_84 : decode cX9_mixParting 84 = .ok (.lmul, 1) := by decide +kernel
theorem dX9_mixParting_85 : decode cX9_mixParting 85 = .ok (.aload_n 0, 1) := by decide +kernel
theorem dX9_mixParting_86 : decode cX9_mixParting 86 = .ok (.iload_n 3, 1) := by decide +kernel
theorem dX9_mixParting_87 : decode cX9_mixParting 87 = .ok (.iconst 1, 1) := by decide +kernel
theorem dX9_mixParting_88 : decode cX9_mixParting 88 = .ok (.invokevirtual 363, 3) := by decide +kernel
theorem dX9_mixParting_91 : decode cX9_mixParting 91 = .ok (.i2l, 1) := by decide +kernel
theorem dX9_mixParting_92 : decode cX9_mixParting 92 = .ok (.ladd, 1) := by decide +kernel
theorem dX9_mixParting_93 : decode cX9_mixParting 93 = .ok (.lstore 4, 2) := by decide +kernel
theorem dX9_mixParting_95 : decode cX9_mixParting 95 = .ok (.ldc2_w 306, 3) := by decide +kernel
theorem dX9_mixParting_98 : decode cX9_mixParting 98 = .ok (.lload 4, 2) := by decide +kernel
theorem dX9_mixParting_100 : decode cX9_mixParting 100 = .ok (.lmul, 1) := by decide +kernel
theorem dX9_mixParting_101 : decode cX9_mixParting 101 = .ok (.aload_n 0, 1) := by decide +kernel
theorem dX9_mixParting_102 : decode cX9_mixParting 102 = .ok (.iload_n 3, 1) := by decide +kernel
theorem dX9_mixParting_103 : decode cX9_mixParting 103 = .ok (.iconst 3, 1) := by decide +kernel
theorem dX9_mixParting_104 : decode cX9_mixParting 104 = .ok (.invokevirtual 363, 3) := by decide +kernel
theorem dX9_mixParting_107 : decode cX9_mixParting 107 = .ok (.i2l, 1) := by decide +kernel
theorem dX9_mixParting_108 : decode cX9_mixParting 108 = .ok (.ladd, 1) := by decide +kernel
theorem dX9_mixParting_109 : decode cX9_mixParting 109 = .ok (.lreturn, 1) := by decide +kernel
theorem dX9_noByte_0 : decode cX9_noByte 0 = .ok (.iload_n 0, 1) := by decide +kernel
theorem dX9_noByte_1 : decode cX9_noByte 1 = .ok (.ifCond .lt 10, 3) := by decide +kernel
theorem dX9_noByte_4 : decode cX9_noByte 4 = .ok (.iload_n 0, 1) := by decide +kernel
theorem dX9_noByte_5 : decode cX9_noByte 5 = .ok (.sipush 255, 3) := by decide +kernel
theorem dX9_noByte_8 : decode cX9_noByte 8 = .ok (.if_icmp .le 7, 3) := by decide +kernel
theorem dX9_noByte_11 : decode cX9_noByte 11 = .ok (.iconst 1, 1) := by decide +kernel
theorem dX9_noByte_12 : decode cX9_noByte 12 = .ok (.goto 4, 3) := by decide +kernel
theorem dX9_noByte_15 : decode cX9_noByte 15 = .ok (.iconst 0, 1) := by decide +kernel
theorem dX9_noByte_16 : decode cX9_noByte 16 = .ok (.ireturn, 1) := by decide +kernel
theorem dX9_leadingBytes_0 : decode cX9_leadingBytes 0 = .ok (.iconst 0, 1) := by decide +kernel
theorem dX9_leadingBytes_1 : decode cX9_leadingBytes 1 = .ok (.istore_n 2, 1) := by decide +kernel
theorem dX9_leadingBytes_2 : decode cX9_leadingBytes 2 = .ok (.iload_n 2, 1) := by decide +kernel
theorem dX9_leadingBytes_3 : decode cX9_leadingBytes 3 = .ok (.aload_n 0, 1) := by decide +kernel
theorem dX9_leadingBytes_4 : decode cX9_leadingBytes 4 = .ok (.getfield 68, 3) := by decide +kernel
theorem dX9_leadingBytes_7 : decode cX9_leadingBytes 7 = .ok (.getfield 276, 3) := by decide +kernel
theorem dX9_leadingBytes_10 : decode cX9_leadingBytes 10 = .ok (.iload_n 1, 1) := by decide +kernel
theorem dX9_leadingBytes_11 : decode cX9_leadingBytes 11 = .ok (.iaload, 1) := by decide +kernel
theorem dX9_leadingBytes_12 : decode cX9_leadingBytes 12 = .ok (.if_icmp .ge 24, 3) := by decide +kernel
theorem dX9_leadingBytes_15 : decode cX9_leadingBytes 15 = .ok (.aload_n 0, 1) := by decide +kernel
theorem dX9_leadingBytes_16 : decode cX9_leadingBytes 16 = .ok (.getfield 68, 3) := by decide +kernel
theorem dX9_leadingBytes_19 : decode cX9_leadingBytes 19 = .ok (.iload_n 1, 1) := by decide +kernel
theorem dX9_leadingBytes_20 : decode cX9_leadingBytes 20 = .ok (.iload_n 2, 1) := by decide +kernel
theorem dX9_leadingBytes_21 : decode cX9_leadingBytes 21 = .ok (.invokevirtual 150, 3) := by decide +kernel
theorem dX9_leadingBytes_24 : decode cX9_leadingBytes 24 = .ok (.invokestatic 99, 3) := by decide +kernel
theorem dX9_leadingBytes_27 : decode cX9_leadingBytes 27 = .ok (.ifCond .ne 9, 3) := by decide +kernel
theorem dX9_leadingBytes_30 : decode cX9_leadingBytes 30 = .ok (.iinc 2 1, 3) := by decide +kernel
theorem dX9_leadingBytes_33 : decode cX9_leadingBytes 33 = .ok (.goto (-31), 3) := by decide +kernel
theorem dX9_leadingBytes_36 : decode cX9_leadingBytes 36 = .ok (.iload_n 2, 1) := by decide +kernel
theorem dX9_leadingBytes_37 : decode cX9_leadingBytes 37 = .ok (.ireturn, 1) := by decide +kernel
theorem dX9_noParts_0 : decode cX9_noParts 0 = .ok (.iload_n 0, 1) := by decide +kernel
theorem dX9_noParts_1 : decode cX9_noParts 1 = .ok (.iconst 1, 1) := by decide +kernel
theorem dX9_noParts_2 : decode cX9_noParts 2 = .ok (.if_icmp .lt 9, 3) := by decide +kernel
theorem dX9_noParts_5 : decode cX9_noParts 5 = .ok (.iload_n 0, 1) := by decide +kernel
theorem dX9_noParts_6 : decode cX9_noParts 6 = .ok (.bipush 8, 2) := by decide +kernel
theorem dX9_noParts_8 : decode cX9_noParts 8 = .ok (.if_icmp .le 7, 3) := by decide +kernel
theorem dX9_noParts_11 : decode cX9_noParts 11 = .ok (.iconst 1, 1) := by decide +kernel
theorem dX9_noParts_12 : decode cX9_noParts 12 = .ok (.goto 4, 3) := by decide +kernel
theorem dX9_noParts_15 : decode cX9_noParts 15 = .ok (.iconst 0, 1) := by decide +kernel
theorem dX9_noParts_16 : decode cX9_noParts 16 = .ok (.ireturn, 1) := by decide +kernel
theorem dX9_noSheet_0 : decode cX9_noSheet 0 = .ok (.iload_n 0, 1) := by decide +kernel
theorem dX9_noSheet_1 : decode cX9_noSheet 1 = .ok (.ifCond .lt 8, 3) := by decide +kernel
theorem dX9_noSheet_4 : decode cX9_noSheet 4 = .ok (.iload_n 0, 1) := by decide +kernel
theorem dX9_noSheet_5 : decode cX9_noSheet 5 = .ok (.iconst 4, 1) := by decide +kernel
theorem dX9_noSheet_6 : decode cX9_noSheet 6 = .ok (.if_icmp .lt 7, 3) := by decide +kernel
theorem dX9_noSheet_9 : decode cX9_noSheet 9 = .ok (.iconst 1, 1) := by decide +kernel
theorem dX9_noSheet_10 : decode cX9_noSheet 10 = .ok (.goto 4, 3) := by decide +kernel
theorem dX9_noSheet_13 : decode cX9_noSheet 13 = .ok (.iconst 0, 1) := by decide +kernel
theorem dX9_noSheet_14 : decode cX9_noSheet 14 = .ok (.ireturn, 1) := by decide +kernel
theorem dX9_noForm_0 : decode cX9_noForm 0 = .ok (.iload_n 0, 1) := by decide +kernel
theorem dX9_noForm_1 : decode cX9_noForm 1 = .ok (.ifCond .lt 8, 3) := by decide +kernel
theorem dX9_noForm_4 : decode cX9_noForm 4 = .ok (.iload_n 0, 1) := by decide +kernel
theorem dX9_noForm_5 : decode cX9_noForm 5 = .ok (.iconst 2, 1) := by decide +kernel
theorem dX9_noForm_6 : decode cX9_noForm 6 = .ok (.if_icmp .le 7, 3) := by decide +kernel
theorem dX9_noForm_9 : decode cX9_noForm 9 = .ok (.iconst 1, 1) := by decide +kernel
theorem dX9_noForm_10 : decode cX9_noForm 10 = .ok (.goto 4, 3) := by decide +kernel
theorem dX9_noForm_13 : decode cX9_noForm 13 = .ok (.iconst 0, 1) := by decide +kernel
theorem dX9_noForm_14 : decode cX9_noForm 14 = .ok (.ireturn, 1) := by decide +kernel
theorem dX9_noSentence_0 : decode cX9_noSentence 0 = .ok (.iload_n 1, 1) := by decide +kernel
theorem dX9_noSentence_1 : decode cX9_noSentence 1 = .ok (.ifCond .lt 14, 3) := by decide +kernel
theorem dX9_noSentence_4 : decode cX9_noSentence 4 = .ok (.iload_n 1, 1) := by decide +kernel
theorem dX9_noSentence_5 : decode cX9_noSentence 5 = .ok (.aload_n 0, 1) := by decide +kernel
theorem dX9_noSentence_6 : decode cX9_noSentence 6 = .ok (.getfield 26, 3) := by decide +kernel
theorem dX9_noSentence_9 : decode cX9_noSentence 9 = .ok (.getfield 214, 3) := by decide +kernel
theorem dX9_noSentence_12 : decode cX9_noSentence 12 = .ok (.if_icmp .lt 7, 3) := by decide +kernel
theorem dX9_noSentence_15 : decode cX9_noSentence 15 = .ok (.iconst 1, 1) := by decide +kernel
theorem dX9_noSentence_16 : decode cX9_noSentence 16 = .ok (.goto 4, 3) := by decide +kernel
theorem dX9_noSentence_19 : decode cX9_noSentence 19 = .ok (.iconst 0, 1) := by decide +kernel
theorem dX9_noSentence_20 : decode cX9_noSentence 20 = .ok (.ireturn, 1) := by decide +kernel
theorem dX9_noStem_0 : decode cX9_noStem 0 = .ok (.iload_n 1, 1) := by decide +kernel
theorem dX9_noStem_1 : decode cX9_noStem 1 = .ok (.ifCond .lt 14, 3) := by decide +kernel
theorem dX9_noStem_4 : decode cX9_noStem 4 = .ok (.iload_n 1, 1) := by decide +kernel
theorem dX9_noStem_5 : decode cX9_noStem 5 = .ok (.aload_n 0, 1) := by decide +kernel
theorem dX9_noStem_6 : decode cX9_noStem 6 = .ok (.getfield 26, 3) := by decide +kernel
theorem dX9_noStem_9 : decode cX9_noStem 9 = .ok (.getfield 297, 3) := by decide +kernel
theorem dX9_noStem_12 : decode cX9_noStem 12 = .ok (.if_icmp .lt 7, 3) := by decide +kernel
theorem dX9_noStem_15 : decode cX9_noStem 15 = .ok (.iconst 1, 1) := by decide +kernel
theorem dX9_noStem_16 : decode cX9_noStem 16 = .ok (.goto 4, 3) := by decide +kernel
theorem dX9_noStem_19 : decode cX9_noStem 19 = .ok (.iconst 0, 1) := by decide +kernel
theorem dX9_noStem_20 : decode cX9_noStem 20 = .ok (.ireturn, 1) := by decide +kernel
theorem dX9_noGap_0 : decode cX9_noGap 0 = .ok (.iload_n 1, 1) := by decide +kernel
theorem dX9_noGap_1 : decode cX9_noGap 1 = .ok (.iconst 1, 1) := by decide +kernel
theorem dX9_noGap_2 : decode cX9_noGap 2 = .ok (.if_icmp .lt 14, 3) := by decide +kernel
theorem dX9_noGap_5 : decode cX9_noGap 5 = .ok (.iload_n 1, 1) := by decide +kernel
theorem dX9_noGap_6 : decode cX9_noGap 6 = .ok (.aload_n 0, 1) := by decide +kernel
theorem dX9_noGap_7 : decode cX9_noGap 7 = .ok (.getfield 26, 3) := by decide +kernel
theorem dX9_noGap_10 : decode cX9_noGap 10 = .ok (.getfield 214, 3) := by decide +kernel
theorem dX9_noGap_13 : decode cX9_noGap 13 = .ok (.if_icmp .lt 7, 3) := by decide +kernel
theorem dX9_noGap_16 : decode cX9_noGap 16 = .ok (.iconst 1, 1) := by decide +kernel
theorem dX9_noGap_17 : decode cX9_noGap 17 = .ok (.goto 4, 3) := by decide +kernel
theorem dX9_noGap_20 : decode cX9_noGap 20 = .ok (.iconst 0, 1) := by decide +kernel
theorem dX9_noGap_21 : decode cX9_noGap 21 = .ok (.ireturn, 1) := by decide +kernel
theorem dX9_finding_0 : decode cX9_finding 0 = .ok (.aload_n 0, 1) := by decide +kernel
theorem dX9_finding_1 : decode cX9_finding 1 = .ok (.iload_n 1, 1) := by decide +kernel
theorem dX9_finding_2 : decode cX9_finding 2 = .ok (.putfield 80, 3) := by decide +kernel
theorem dX9_finding_5 : decode cX9_finding 5 = .ok (.bipush (-10), 2) := by decide +kernel
theorem dX9_finding_7 : decode cX9_finding 7 = .ok (.iload_n 1, 1) := by decide +kernel
theorem dX9_finding_8 : decode cX9_finding 8 = .ok (.isub, 1) := by decide +kernel
theorem dX9_finding_9 : decode cX9_finding 9 = .ok (.ireturn, 1) := by decide +kernel
theorem dX9_forgetText_0 : decode cX9_forgetText 0 = .ok (.aload_n 0, 1) := by decide +kernel
theorem dX9_forgetText_1 : decode cX9_forgetText 1 = .ok (.iconst 0, 1) := by decide +kernel
theorem dX9_forgetText_2 : decode cX9_forgetText 2 = .ok (.putfield 83, 3) := by decide +kernel
theorem dX9_forgetText_5 : decode cX9_forgetText 5 = .ok (.aload_n 0, 1) := by decide +kernel
theorem dX9_forgetText_6 : decode cX9_forgetText 6 = .ok (.iconst 0, 1) := by decide +kernel
theorem dX9_forgetText_7 : decode cX9_forgetText 7 = .ok (.putfield 87, 3) := by decide +kernel
theorem dX9_forgetText_10 : decode cX9_forgetText 10 = .ok (.aload_n 0, 1) := by decide +kernel
theorem dX9_forgetText_11 : decode cX9_forgetText 11 = .ok (.iconst 0, 1) := by decide +kernel
theorem dX9_forgetText_12 : decode cX9_forgetText 12 = .ok (.putfield 90, 3) := by decide +kernel
theorem dX9_forgetText_15 : decode cX9_forgetText 15 = .ok (.aload_n 0, 1) := by decide +kernel
theorem dX9_forgetText_16 : decode cX9_forgetText 16 = .ok (.iconst 0, 1) := by decide +kernel
theorem dX9_forgetText_17 : decode cX9_forgetText 17 = .ok (.putfield 93, 3) := by decide +kernel
theorem dX9_forgetText_20 : decode cX9_forgetText 20 = .ok (.aload_n 0, 1) := by decide +kernel
theorem dX9_forgetText_21 : decode cX9_forgetText 21 = .ok (.iconst 0, 1) := by decide +kernel
theorem dX9_forgetText_22 : decode cX9_forgetText 22 = .ok (.putfield 96, 3) := by decide +kernel
theorem dX9_forgetText_25 : decode cX9_forgetText 25 = .ok (.return_, 1) := by decide +kernel
theorem dX9_readText_0 : decode cX9_readText 0 = .ok (.aload_n 0, 1) := by decide +kernel
theorem dX9_readText_1 : decode cX9_readText 1 = .ok (.getfield 83, 3) := by decide +kernel
theorem dX9_readText_4 : decode cX9_readText 4 = .ok (.ifCond .eq 4, 3) := by decide +kernel
theorem dX9_readText_7 : decode cX9_readText 7 = .ok (.return_, 1) := by decide +kernel
theorem dX9_readText_8 : decode cX9_readText 8 = .ok (.aload_n 0, 1) := by decide +kernel
theorem dX9_readText_9 : decode cX9_readText 9 = .ok (.getfield 19, 3) := by decide +kernel
theorem dX9_readText_12 : decode cX9_readText 12 = .ok (.aload_n 0, 1) := by decide +kernel
theorem dX9_readText_13 : decode cX9_readText 13 = .ok (.getfield 12, 3) := by decide +kernel
theorem dX9_readText_16 : decode cX9_readText 16 = .ok (.invokevirtual 366, 3) := by decide +kernel
theorem dX9_readText_19 : decode cX9_readText 19 = .ok (.aload_n 0, 1) := by decide +kernel
theorem dX9_readText_20 : decode cX9_readText 20 = .ok (.getfield 26, 3) := by decide +kernel
theorem dX9_readText_23 : decode cX9_readText 23 = .ok (.aload_n 0, 1) := by decide +kernel
theorem dX9_readText_24 : decode cX9_readText 24 = .ok (.getfield 12, 3) := by decide +kernel
theorem dX9_readText_27 : decode cX9_readText 27 = .ok (.aload_n 0, 1) := by decide +kernel
theorem dX9_readText_28 : decode cX9_readText 28 = .ok (.getfield 19, 3) := by decide +kernel
theorem dX9_readText_31 : decode cX9_readText 31 = .ok (.getfield 119, 3) := by decide +kernel
theorem dX9_readText_34 : decode cX9_readText 34 = .ok (.iconst (-1), 1) := by decide +kernel
theorem dX9_readText_35 : decode cX9_readText 35 = .ok (.if_icmp .ne 7, 3) := by decide +kernel
theorem dX9_readText_38 : decode cX9_readText 38 = .ok (.iconst 1, 1) := by decide +kernel
theorem dX9_readText_39 : decode cX9_readText 39 = .ok (.goto 4, 3) := by decide +kernel
theorem dX9_readText_42 : decode cX9_readText 42 = .ok (.iconst 0, 1) := by decide +kernel
theorem dX9_readText_43 : decode cX9_readText 43 = .ok (.invokevirtual 370, 3) := by decide +kernel
theorem dX9_readText_46 : decode cX9_readText 46 = .ok (.aload_n 0, 1) := by decide +kernel
theorem dX9_readText_47 : decode cX9_readText 47 = .ok (.iconst 1, 1) := by decide +kernel
theorem dX9_readText_48 : decode cX9_readText 48 = .ok (.putfield 83, 3) := by decide +kernel
theorem dX9_readText_51 : decode cX9_readText 51 = .ok (.return_, 1) := by decide +kernel
theorem dX9_linkChains_0 : decode cX9_linkChains 0 = .ok (.aload_n 0, 1) := by decide +kernel
theorem dX9_linkChains_1 : decode cX9_linkChains 1 = .ok (.getfield 87, 3) := by decide +kernel
theorem dX9_linkChains_4 : decode cX9_linkChains 4 = .ok (.ifCond .eq 4, 3) := by decide +kernel
theorem dX9_linkChains_7 : decode cX9_linkChains 7 = .ok (.return_, 1) := by decide +kernel
theorem dX9_linkChains_8 : decode cX9_linkChains 8 = .ok (.aload_n 0, 1) := by decide +kernel
theorem dX9_linkChains_9 : decode cX9_linkChains 9 = .ok (.getfield 33, 3) := by decide +kernel
theorem dX9_linkChains_12 : decode cX9_linkChains 12 = .ok (.aload_n 0, 1) := by decide +kernel
theorem dX9_linkChains_13 : decode cX9_linkChains 13 = .ok (.getfield 26, 3) := by decide +kernel
theorem dX9_linkChains_16 : decode cX9_linkChains 16 = .ok (.aload_n 0, 1) := by decide +kernel
theorem dX9_linkChains_17 : decode cX9_linkChains 17 = .ok (.getfield 72, 3) := by decide +kernel
theorem dX9_linkChains_20 : decode cX9_linkChains 20 = .ok (.iconst 2, 1) := by decide +kernel
theorem dX9_linkChains_21 : decode cX9_linkChains 21 = .ok (.iaload, 1) := by decide +kernel
theorem dX9_linkChains_22 : decode cX9_linkChains 22 = .ok (.invokevirtual 374, 3) := by decide +kernel
theorem dX9_linkChains_25 : decode cX9_linkChains 25 = .ok (.aload_n 0, 1) := by decide +kernel
theorem dX9_linkChains_26 : decode cX9_linkChains 26 = .ok (.iconst 1, 1) := by decide +kernel
theorem dX9_linkChains_27 : decode cX9_linkChains 27 = .ok (.putfield 87, 3) := by decide +kernel
theorem dX9_linkChains_30 : decode cX9_linkChains 30 = .ok (.return_, 1) := by decide +kernel
theorem dX9_partText_0 : decode cX9_partText 0 = .ok (.aload_n 0, 1) := by decide +kernel
theorem dX9_partText_1 : decode cX9_partText 1 = .ok (.getfield 90, 3) := by decide +kernel
theorem dX9_partText_4 : decode cX9_partText 4 = .ok (.ifCond .eq 4, 3) := by decide +kernel
theorem dX9_partText_7 : decode cX9_partText 7 = .ok (.return_, 1) := by decide +kernel
theorem dX9_partText_8 : decode cX9_partText 8 = .ok (.aload_n 0, 1) := by decide +kernel
theorem dX9_partText_9 : decode cX9_partText 9 = .ok (.getfield 40, 3) := by decide +kernel
theorem dX9_partText_12 : decode cX9_partText 12 = .ok (.aload_n 0, 1) := by decide +kernel
theorem dX9_partText_13 : decode cX9_partText 13 = .ok (.getfield 26, 3) := by decide +kernel
theorem dX9_partText_16 : decode cX9_partText 16 = .ok (.iconst (-1), 1) := by decide +kernel
theorem dX9_partText_17 : decode cX9_partText 17 = .ok (.aload_n 0, 1) := by decide +kernel
theorem dX9_partText_18 : decode cX9_partText 18 = .ok (.getfield 72, 3) := by decide +kernel
theorem dX9_partText_21 : decode cX9_partText 21 = .ok (.iconst 0, 1) := by decide +kernel
theorem dX9_partText_22 : decode cX9_partText 22 = .ok (.iaload, 1) := by decide +kernel
theorem dX9_partText_23 : decode cX9_partText 23 = .ok (.aload_n 0, 1) := by decide +kernel
theorem dX9_partText_24 : decode cX9_partText 24 = .ok (.getfield 72, 3) := by decide +kernel
theorem dX9_partText_27 : decode cX9_partText 27 = .ok (.iconst 1, 1) := by decide +kernel
theorem dX9_partText_28 : decode cX9_partText 28 = .ok (.iaload, 1) := by decide +kernel
theorem dX9_partText_29 : decode cX9_partText 29 = .ok (.invokevirtual 377, 3) := by decide +kernel
theorem dX9_partText_32 : decode cX9_partText 32 = .ok (.aload_n 0, 1) := by decide +kernel
theorem dX9_partText_33 : decode cX9_partText 33 = .ok (.getfield 47, 3) := by decide +kernel
theorem dX9_partText_36 : decode cX9_partText 36 = .ok (.aload_n 0, 1) := by decide +kernel
theorem dX9_partText_37 : decode cX9_partText 37 = .ok (.getfield 40, 3) := by decide +kernel
theorem dX9_partText_40 : decode cX9_partText 40 = .ok (.getfield 220, 3) := by decide +kernel
theorem dX9_partText_43 : decode cX9_partText 43 = .ok (.aload_n 0, 1) := by decide +kernel
theorem dX9_partText_44 : decode cX9_partText 44 = .ok (.getfield 26, 3) := by decide +kernel
theorem dX9_partText_47 : decode cX9_partText 47 = .ok (.getfield 214, 3) := by decide +kernel
theorem dX9_partText_50 : decode cX9_partText 50 = .ok (.invokevirtual 380, 3) := by decide +kernel
theorem dX9_partText_53 : decode cX9_partText 53 = .ok (.aload_n 0, 1) := by decide +kernel
theorem dX9_partText_54 : decode cX9_partText 54 = .ok (.iconst 1, 1) := by decide +kernel
theorem dX9_partText_55 : decode cX9_partText 55 = .ok (.putfield 90, 3) := by decide +kernel
theorem dX9_partText_58 : decode cX9_partText 58 = .ok (.return_, 1) := by decide +kernel
theorem dX9_dropSentences_0 : decode cX9_dropSentences 0 = .ok (.aload_n 0, 1) := by decide +kernel
theorem dX9_dropSentences_1 : decode cX9_dropSentences 1 = .ok (.getfield 93, 3) := by decide +kernel
theorem dX9_dropSentences_4 : decode cX9_dropSentences 4 = .ok (.ifCond .eq 4, 3) := by decide +kernel
theorem dX9_dropSentences_7 : decode cX9_dropSentences 7 = .ok (.return_, 1) := by decide +kernel
theorem dX9_dropSentences_8 : decode cX9_dropSentences 8 = .ok (.aload_n 0, 1) := by decide +kernel
theorem dX9_dropSentences_9 : decode cX9_dropSentences 9 = .ok (.getfield 54, 3) := by decide +kernel
theorem dX9_dropSentences_12 : decode cX9_dropSentences 12 = .ok (.aload_n 0, 1) := by decide +kernel
theorem dX9_dropSentences_13 : decode cX9_dropSentences 13 = .ok (.getfield 26, 3) := by decide +kernel
theorem dX9_dropSentences_16 : decode cX9_dropSentences 16 = .ok (.aload_n 0, 1) := by decide +kernel
theorem dX9_dropSentences_17 : decode cX9_dropSentences 17 = .ok (.getfield 72, 3) := by decide +kernel
theorem dX9_dropSentences_20 : decode cX9_dropSentences 20 = .ok (.iconst 0, 1) := by decide +kernel
theorem dX9_dropSentences_21 : decode cX9_dropSentences 21 = .ok (.iaload, 1) := by decide +kernel
theorem dX9_dropSentences_22 : decode cX9_dropSentences 22 = .ok (.aload_n 0, 1) := by decide +kernel
theorem dX9_dropSentences_23 : decode cX9_dropSentences 23 = .ok (.getfield 72, 3) := by decide +kernel
theorem dX9_dropSentences_26 : decode cX9_dropSentences 26 = .ok (.iconst 1, 1) := by decide +kernel
theorem dX9_dropSentences_27 : decode cX9_dropSentences 27 = .ok (.iaload, 1) := by decide +kernel
theorem dX9_dropSentences_28 : decode cX9_dropSentences 28 = .ok (.invokevirtual 383, 3) := by decide +kernel
theorem dX9_dropSentences_31 : decode cX9_dropSentences 31 = .ok (.aload_n 0, 1) := by decide +kernel
theorem dX9_dropSentences_32 : decode cX9_dropSentences 32 = .ok (.iconst 1, 1) := by decide +kernel
theorem dX9_dropSentences_33 : decode cX9_dropSentences 33 = .ok (.putfield 93, 3) := by decide +kernel
theorem dX9_dropSentences_36 : decode cX9_dropSentences 36 = .ok (.return_, 1) := by decide +kernel
theorem dX9_weighGaps_0 : decode cX9_weighGaps 0 = .ok (.aload_n 0, 1) := by decide +kernel
theorem dX9_weighGaps_1 : decode cX9_weighGaps 1 = .ok (.getfield 96, 3) := by decide +kernel
theorem dX9_weighGaps_4 : decode cX9_weighGaps 4 = .ok (.ifCond .eq 4, 3) := by decide +kernel
theorem dX9_weighGaps_7 : decode cX9_weighGaps 7 = .ok (.return_, 1) := by decide +kernel
theorem dX9_weighGaps_8 : decode cX9_weighGaps 8 = .ok (.aload_n 0, 1) := by decide +kernel
theorem dX9_weighGaps_9 : decode cX9_weighGaps 9 = .ok (.getfield 61, 3) := by decide +kernel
theorem dX9_weighGaps_12 : decode cX9_weighGaps 12 = .ok (.aload_n 0, 1) := by decide +kernel
theorem dX9_weighGaps_13 : decode cX9_weighGaps 13 = .ok (.getfield 26, 3) := by decide +kernel
theorem dX9_weighGaps_16 : decode cX9_weighGaps 16 = .ok (.aload_n 0, 1) := by decide +kernel
theorem dX9_weighGaps_17 : decode cX9_weighGaps 17 = .ok (.getfield 72, 3) := by decide +kernel
theorem dX9_weighGaps_20 : decode cX9_weighGaps 20 = .ok (.iconst 3, 1) := by decide +kernel
theorem dX9_weighGaps_21 : decode cX9_weighGaps 21 = .ok (.iaload, 1) := by decide +kernel
theorem dX9_weighGaps_22 : decode cX9_weighGaps 22 = .ok (.invokevirtual 386, 3) := by decide +kernel
theorem dX9_weighGaps_25 : decode cX9_weighGaps 25 = .ok (.aload_n 0, 1) := by decide +kernel
theorem dX9_weighGaps_26 : decode cX9_weighGaps 26 = .ok (.iconst 1, 1) := by decide +kernel
theorem dX9_weighGaps_27 : decode cX9_weighGaps 27 = .ok (.putfield 96, 3) := by decide +kernel
theorem dX9_weighGaps_30 : decode cX9_weighGaps 30 = .ok (.return_, 1) := by decide +kernel
theorem dX9_isLetter_0 : decode cX9_isLetter 0 = .ok (.iload_n 0, 1) := by decide +kernel
theorem dX9_isLetter_1 : decode cX9_isLetter 1 = .ok (.bipush 97, 2) := by decide +kernel
theorem dX9_isLetter_3 : decode cX9_isLetter 3 = .ok (.if_icmp .lt 13, 3) := by decide +kernel
theorem dX9_isLetter_6 : decode cX9_isLetter 6 = .ok (.iload_n 0, 1) := by decide +kernel
theorem dX9_isLetter_7 : decode cX9_isLetter 7 = .ok (.bipush 122, 2) := by decide +kernel
theorem dX9_isLetter_9 : decode cX9_isLetter 9 = .ok (.if_icmp .gt 7, 3) := by decide +kernel
theorem dX9_isLetter_12 : decode cX9_isLetter 12 = .ok (.iconst 1, 1) := by decide +kernel
theorem dX9_isLetter_13 : decode cX9_isLetter 13 = .ok (.goto 4, 3) := by decide +kernel
theorem dX9_isLetter_16 : decode cX9_isLetter 16 = .ok (.iconst 0, 1) := by decide +kernel
theorem dX9_isLetter_17 : decode cX9_isLetter 17 = .ok (.ireturn, 1) := by decide +kernel
theorem dX10_init_0 : decode cX10_init 0 = .ok (.aload_n 0, 1) := by decide +kernel
theorem dX10_init_1 : decode cX10_init 1 = .ok (.invokespecial 1, 3) := by decide +kernel
theorem dX10_init_4 : decode cX10_init 4 = .ok (.aload_n 0, 1) := by decide +kernel
theorem dX10_init_5 : decode cX10_init 5 = .ok (.sipush 200, 3) := by decide +kernel
theorem dX10_init_8 : decode cX10_init 8 = .ok (.newarray .int, 2) := by decide +kernel
theorem dX10_init_10 : decode cX10_init 10 = .ok (.putfield 7, 3) := by decide +kernel
theorem dX10_init_13 : decode cX10_init 13 = .ok (.aload_n 0, 1) := by decide +kernel
theorem dX10_init_14 : decode cX10_init 14 = .ok (.iconst 4, 1) := by decide +kernel
theorem dX10_init_15 : decode cX10_init 15 = .ok (.newarray .int, 2) := by decide +kernel
theorem dX10_init_17 : decode cX10_init 17 = .ok (.putfield 13, 3) := by decide +kernel
theorem dX10_init_20 : decode cX10_init 20 = .ok (.aload_n 0, 1) := by decide +kernel
theorem dX10_init_21 : decode cX10_init 21 = .ok (.bipush 110, 2) := by decide +kernel
theorem dX10_init_23 : decode cX10_init 23 = .ok (.newarray .int, 2) := by decide +kernel
theorem dX10_init_25 : decode cX10_init 25 = .ok (.putfield 16, 3) := by decide +kernel
theorem dX10_init_28 : decode cX10_init 28 = .ok (.aload_n 0, 1) := by decide +kernel
theorem dX10_init_29 : decode cX10_init 29 = .ok (.bipush 110, 2) := by decide +kernel
theorem dX10_init_31 : decode cX10_init 31 = .ok (.newarray .int, 2) := by decide +kernel
theorem dX10_init_33 : decode cX10_init 33 = .ok (.putfield 19, 3) := by decide +kernel
theorem dX10_init_36 : decode cX10_init 36 = .ok (.aload_n 0, 1) := by decide +kernel
theorem dX10_init_37 : decode cX10_init 37 = .ok (.bipush 110, 2) := by decide +kernel
theorem dX10_init_39 : decode cX10_init 39 = .ok (.newarray .int, 2) := by decide +kernel
theorem dX10_init_41 : decode cX10_init 41 = .ok (.putfield 22, 3) := by decide +kernel
theorem dX10_init_44 : decode cX10_init 44 = .ok (.aload_n 0, 1) := by decide +kernel
theorem dX10_init_45 : decode cX10_init 45 = .ok (.bipush 110, 2) := by decide +kernel
theorem dX10_init_47 : decode cX10_init 47 = .ok (.newarray .int, 2) := by decide +kernel
theorem dX10_init_49 : decode cX10_init 49 = .ok (.putfield 25, 3) := by decide +kernel
theorem dX10_init_52 : decode cX10_init 52 = .ok (.aload_n 0, 1) := by decide +kernel
theorem dX10_init_53 : decode cX10_init 53 = .ok (.bipush 110, 2) := by decide +kernel
theorem dX10_init_55 : decode cX10_init 55 = .ok (.newarray .int, 2) := by decide +kernel
theorem dX10_init_57 : decode cX10_init 57 = .ok (.putfield 28, 3) := by decide +kernel
theorem dX10_init_60 : decode cX10_init 60 = .ok (.aload_n 0, 1) := by decide +kernel
theorem dX10_init_61 : decode cX10_init 61 = .ok (.bipush 110, 2) := by decide +kernel
theorem dX10_init_63 : decode cX10_init 63 = .ok (.newarray .int, 2) := by decide +kernel
theorem dX10_init_65 : decode cX10_init 65 = .ok (.putfield 31, 3) := by decide +kernel
theorem dX10_init_68 : decode cX10_init 68 = .ok (.aload_n 0, 1) := by decide +kernel
theorem dX10_init_69 : decode cX10_init 69 = .ok (.bipush 14, 2) := by decide +kernel
theorem dX10_init_71 : decode cX10_init 71 = .ok (.newarray .int, 2) := by decide +kernel
theorem dX10_init_73 : decode cX10_init 73 = .ok (.putfield 34, 3) := by decide +kernel
theorem dX10_init_76 : decode cX10_init 76 = .ok (.aload_n 0, 1) := by decide +kernel
theorem dX10_init_77 : decode cX10_init 77 = .ok (.sipush 1320, 3) := by decide +kernel
theorem dX10_init_80 : decode cX10_init 80 = .ok (.newarray .int, 2) := by decide +kernel
theorem dX10_init_82 : decode cX10_init 82 = .ok (.putfield 37, 3) := by decide +kernel
theorem dX10_init_85 : decode cX10_init 85 = .ok (.aload_n 0, 1) := by decide +kernel
theorem dX10_init_86 : decode cX10_init 86 = .ok (.bipush 110, 2) := by decide +kernel
theorem dX10_init_88 : decode cX10_init 88 = .ok (.newarray .int, 2) := by decide +kernel
theorem dX10_init_90 : decode cX10_init 90 = .ok (.putfield 40, 3) := by decide +kernel
theorem dX10_init_93 : decode cX10_init 93 = .ok (.aload_n 0, 1) := by decide +kernel
theorem dX10_init_94 : decode cX10_init 94 = .ok (.bipush 110, 2) := by decide +kernel
theorem dX10_init_96 : decode cX10_init 96 = .ok (.newarray .int, 2) := by decide +kernel
theorem dX10_init_98 : decode cX10_init 98 = .ok (.putfield 43, 3) := by decide +kernel
theorem dX10_init_101 : decode cX10_init 101 = .ok (.aload_n 0, 1) := by decide +kernel
theorem dX10_init_102 : decode cX10_init 102 = .ok (.bipush 110, 2) := by decide +kernel
theorem dX10_init_104 : decode cX10_init 104 = .ok (.newarray .int, 2) := by decide +kernel
theorem dX10_init_106 : decode cX10_init 106 = .ok (.putfield 46, 3) := by decide +kernel
theorem dX10_init_109 : decode cX10_init 109 = .ok (.aload_n 0, 1) := by decide +kernel
theorem dX10_init_110 : decode cX10_init 110 = .ok (.bipush 110, 2) := by decide +kernel
theorem dX10_init_112 : decode cX10_init 112 = .ok (.newarray .int, 2) := by decide +kernel
theorem dX10_init_114 : decode cX10_init 114 = .ok (.putfield 49, 3) := by decide +kernel
theorem dX10_init_117 : decode cX10_init 117 = .ok (.aload_n 0, 1) := by decide +kernel
theorem dX10_init_118 : decode cX10_init 118 = .ok (.sipush 169, 3) := by decide +kernel
theorem dX10_init_121 : decode cX10_init 121 = .ok (.newarray .int, 2) := by decide +kernel
theorem dX10_init_123 : decode cX10_init 123 = .ok (.putfield 52, 3) := by decide +kernel
theorem dX10_init_126 : decode cX10_init 126 = .ok (.aload_n 0, 1) := by decide +kernel
theorem dX10_init_127 : decode cX10_init 127 = .ok (.bipush 117, 2) := by decide +kernel
theorem dX10_init_129 : decode cX10_init 129 = .ok (.newarray .int, 2) := by decide +kernel
theorem dX10_init_131 : decode cX10_init 131 = .ok (.putfield 55, 3) := by decide +kernel
theorem dX10_init_134 : decode cX10_init 134 = .ok (.aload_n 0, 1) := by decide +kernel
theorem dX10_init_135 : decode cX10_init 135 = .ok (.bipush 117, 2) := by decide +kernel
theorem dX10_init_137 : decode cX10_init 137 = .ok (.newarray .int, 2) := by decide +kernel
theorem dX10_init_139 : decode cX10_init 139 = .ok (.putfield 58, 3) := by decide +kernel
theorem dX10_init_142 : decode cX10_init 142 = .ok (.aload_n 0, 1) := by decide +kernel
theorem dX10_init_143 : decode cX10_init 143 = .ok (.iconst 4, 1) := by decide +kernel
theorem dX10_init_144 : decode cX10_init 144 = .ok (.newarray .boolean, 2) := by decide +kernel
theorem dX10_init_146 : decode cX10_init 146 = .ok (.putfield 61, 3) := by decide +kernel
theorem dX10_init_149 : decode cX10_init 149 = .ok (.aload_n 0, 1) := by decide +kernel
theorem dX10_init_150 : decode cX10_init 150 = .ok (.iconst 4, 1) := by decide +kernel
theorem dX10_init_151 : decode cX10_init 151 = .ok (.newarray .int, 2) := by decide +kernel
theorem dX10_init_153 : decode cX10_init 153 = .ok (.putfield 65, 3) := by decide +kernel
theorem dX10_init_156 : decode cX10_init 156 = .ok (.aload_n 0, 1) := by decide +kernel
theorem dX10_init_157 : decode cX10_init 157 = .ok (.iconst 4, 1) := by decide +kernel
theorem dX10_init_158 : decode cX10_init 158 = .ok (.newarray .int, 2) := by decide +kernel
theorem dX10_init_160 : decode cX10_init 160 = .ok (.putfield 68, 3) := by decide +kernel
theorem dX10_init_163 : decode cX10_init 163 = .ok (.aload_n 0, 1) := by decide +kernel
theorem dX10_init_164 : decode cX10_init 164 = .ok (.sipush 240, 3) := by decide +kernel
theorem dX10_init_167 : decode cX10_init 167 = .ok (.newarray .int, 2) := by decide +kernel
theorem dX10_init_169 : decode cX10_init 169 = .ok (.putfield 71, 3) := by decide +kernel
theorem dX10_init_172 : decode cX10_init 172 = .ok (.aload_n 0, 1) := by decide +kernel
theorem dX10_init_173 : decode cX10_init 173 = .ok (.bipush 60, 2) := by decide +kernel
theorem dX10_init_175 : decode cX10_init 175 = .ok (.newarray .int, 2) := by decide +kernel
theorem dX10_init_177 : decode cX10_init 177 = .ok (.putfield 74, 3) := by decide +kernel
theorem dX10_init_180 : decode cX10_init 180 = .ok (.aload_n 0, 1) := by decide +kernel
theorem dX10_init_181 : decode cX10_init 181 = .ok (.getfield 13, 3) := by decide +kernel
theorem dX10_init_184 : decode cX10_init 184 = .ok (.iconst 1, 1) := by decide +kernel
theorem dX10_init_185 : decode cX10_init 185 = .ok (.iconst 3, 1) := by decide +kernel
theorem dX10_init_186 : decode cX10_init 186 = .ok (.iastore, 1) := by decide +kernel
theorem dX10_init_187 : decode cX10_init 187 = .ok (.aload_n 0, 1) := by decide +kernel
theorem dX10_init_188 : decode cX10_init 188 = .ok (.getfield 13, 3) := by decide +kernel
theorem dX10_init_191 : decode cX10_init 191 = .ok (.iconst 2, 1) := by decide +kernel
theorem dX10_init_192 : decode cX10_init 192 = .ok (.iconst 2, 1) := by decide +kernel
theorem dX10_init_193 : decode cX10_init 193 = .ok (.iastore, 1) := by decide +kernel
theorem dX10_init_194 : decode cX10_init 194 = .ok (.aload_n 0, 1) := by decide +kernel
theorem dX10_init_195 : decode cX10_init 195 = .ok (.getfield 13, 3) := by decide +kernel
theorem dX10_init_198 : decode cX10_init 198 = .ok (.iconst 3, 1) := by decide +kernel
theorem dX10_init_199 : decode cX10_init 199 = .ok (.iconst 2, 1) := by decide +kernel
theorem dX10_init_200 : decode cX10_init 200 = .ok (.iastore, 1) := by decide +kernel
theorem dX10_init_201 : decode cX10_init 201 = .ok (.return_, 1) := by decide +kernel
theorem dX10_in_0 : decode cX10_in 0 = .ok (.iload_n 0, 1) := by decide +kernel
theorem dX10_in_1 : decode cX10_in 1 = .ok (.iload_n 1, 1) := by decide +kernel
theorem dX10_in_2 : decode cX10_in 2 = .ok (.if_icmp .lt 12, 3) := by decide +kernel
theorem dX10_in_5 : decode cX10_in 5 = .ok (.iload_n 0, 1) := by decide +kernel
theorem dX10_in_6 : decode cX10_in 6 = .ok (.iload_n 2, 1) := by decide +kernel
theorem dX10_in_7 : decode cX10_in 7 = .ok (.if_icmp .gt 7, 3) := by decide +kernel
theorem dX10_in_10 : decode cX10_in 10 = .ok (.iconst 1, 1) := by decide +kernel
theorem dX10_in_11 : decode cX10_in 11 = .ok (.goto 4, 3) := by decide +kernel
theorem dX10_in_14 : decode cX10_in 14 = .ok (.iconst 0, 1) := by decide +kernel
theorem dX10_in_15 : decode cX10_in 15 = .ok (.ireturn, 1) := by decide +kernel
theorem dX10_isIn_0 : decode cX10_isIn 0 = .ok (.iload_n 0, 1) := by decide +kernel
theorem dX10_isIn_1 : decode cX10_isIn 1 = .ok (.iload_n 1, 1) := by decide +kernel
theorem dX10_isIn_2 : decode cX10_isIn 2 = .ok (.ishr, 1) := by decide +kernel
theorem dX10_isIn_3 : decode cX10_isIn 3 = .ok (.iconst 1, 1) := by decide +kernel
theorem dX10_isIn_4 : decode cX10_isIn 4 = .ok (.iand, 1) := by decide +kernel
theorem dX10_isIn_5 : decode cX10_isIn 5 = .ok (.iconst 1, 1) := by decide +kernel
theorem dX10_isIn_6 : decode cX10_isIn 6 = .ok (.if_icmp .ne 7, 3) := by decide +kernel
theorem dX10_isIn_9 : decode cX10_isIn 9 = .ok (.iconst 1, 1) := by decide +kernel
theorem dX10_isIn_10 : decode cX10_isIn 10 = .ok (.goto 4, 3) := by decide +kernel
theorem dX10_isIn_13 : decode cX10_isIn 13 = .ok (.iconst 0, 1) := by decide +kernel
theorem dX10_isIn_14 : decode cX10_isIn 14 = .ok (.ireturn, 1) := by decide +kernel
theorem dX10_isTwo_0 : decode cX10_isTwo 0 = .ok (.iload_n 0, 1) := by decide +kernel
theorem dX10_isTwo_1 : decode cX10_isTwo 1 = .ok (.iconst 0, 1) := by decide +kernel
theorem dX10_isTwo_2 : decode cX10_isTwo 2 = .ok (.iconst 1, 1) := by decide +kernel
theorem dX10_isTwo_3 : decode cX10_isTwo 3 = .ok (.invokestatic 77, 3) := by decide +kernel
theorem dX10_isTwo_6 : decode cX10_isTwo 6 = .ok (.ireturn, 1) := by decide +kernel
theorem dX10_type_0 : decode cX10_type 0 = .ok (.iload_n 1, 1) := by decide +kernel
theorem dX10_type_1 : decode cX10_type 1 = .ok (.iconst 0, 1) := by decide +kernel
theorem dX10_type_2 : decode cX10_type 2 = .ok (.sipush 255, 3) := by decide +kernel
theorem dX10_type_5 : decode cX10_type 5 = .ok (.invokestatic 77, 3) := by decide +kernel
theorem dX10_type_8 : decode cX10_type 8 = .ok (.ifCond .ne 6, 3) := by decide +kernel
theorem dX10_type_11 : decode cX10_type 11 = .ok (.bipush (-2), 2) := by decide +kernel
theorem dX10_type_13 : decode cX10_type 13 = .ok (.ireturn, 1) := by decide +kernel
theorem dX10_type_14 : decode cX10_type 14 = .ok (.aload_n 0, 1) := by decide +kernel
theorem dX10_type_15 : decode cX10_type 15 = .ok (.getfield 81, 3) := by decide +kernel
theorem dX10_type_18 : decode cX10_type 18 = .ok (.sipush 200, 3) := by decide +kernel
theorem dX10_type_21 : decode cX10_type 21 = .ok (.if_icmp .ne 6, 3) := by decide +kernel
theorem dX10_type_24 : decode cX10_type 24 = .ok (.bipush (-4), 2) := by decide +kernel
theorem dX10_type_26 : decode cX10_type 26 = .ok (.ireturn, 1) := by decide +kernel
theorem dX10_type_27 : decode cX10_type 27 = .ok (.aload_n 0, 1) := by decide +kernel
theorem dX10_type_28 : decode cX10_type 28 = .ok (.getfield 7, 3) := by decide +kernel
theorem dX10_type_31 : decode cX10_type 31 = .ok (.aload_n 0, 1) := by decide +kernel
theorem dX10_type_32 : decode cX10_type 32 = .ok (.getfield 81, 3) := by decide +kernel
theorem dX10_type_35 : decode cX10_type 35 = .ok (.iload_n 1, 1) := by decide +kernel
theorem dX10_type_36 : decode cX10_type 36 = .ok (.iastore, 1) := by decide +kernel
theorem dX10_type_37 : decode cX10_type 37 = .ok (.aload_n 0, 1) := by decide +kernel
theorem dX10_type_38 : decode cX10_type 38 = .ok (.dup, 1) := by decide +kernel
theorem dX10_type_39 : decode cX10_type 39 = .ok (.getfield 81, 3) := by decide +kernel
theorem dX10_type_42 : decode cX10_type 42 = .ok (.iconst 1, 1) := by decide +kernel
theorem dX10_type_43 : decode cX10_type 43 = .ok (.iadd, 1) := by decide +kernel
theorem dX10_type_44 : decode cX10_type 44 = .ok (.putfield 81, 3) := by decide +kernel
theorem dX10_type_47 : decode cX10_type 47 = .ok (.aload_n 0, 1) := by decide +kernel
theorem dX10_type_48 : decode cX10_type 48 = .ok (.getfield 81, 3) := by decide +kernel
theorem dX10_type_51 : decode cX10_type 51 = .ok (.ireturn, 1) := by decide +kernel
theorem dX10_wipe_0 : decode cX10_wipe 0 = .ok (.aload_n 0, 1) := by decide +kernel
theorem dX10_wipe_1 : decode cX10_wipe 1 = .ok (.getfield 81, 3) := by decide +kernel
theorem dX10_wipe_4 : decode cX10_wipe 4 = .ok (.istore_n 1, 1) := by decide +kernel
theorem dX10_wipe_5 : decode cX10_wipe 5 = .ok (.aload_n 0, 1) := by decide +kernel
theorem dX10_wipe_6 : decode cX10_wipe 6 = .ok (.iconst 0, 1) := by decide +kernel
theorem dX10_wipe_7 : decode cX10_wipe 7 = .ok (.putfield 81, 3) := by decide +kernel
theorem dX10_wipe_10 : decode cX10_wipe 10 = .ok (.iload_n 1, 1) := by decide +kernel
theorem dX10_wipe_11 : decode cX10_wipe 11 = .ok (.ireturn, 1) := by decide +kernel
theorem dX10_undo_0 : decode cX10_undo 0 = .ok (.aload_n 0, 1) := by decide +kernel
theorem dX10_undo_1 : decode cX10_undo 1 = .ok (.getfield 81, 3) := by decide +kernel
theorem dX10_undo_4 : decode cX10_undo 4 = .ok (.ifCond .ne 6, 3) := by decide +kernel
theorem dX10_undo_7 : decode cX10_undo 7 = .ok (.bipush (-3), 2) := by decide +kernel
theorem dX10_undo_9 : decode cX10_undo 9 = .ok (.ireturn, 1) := by decide +kernel
theorem dX10_undo_10 : decode cX10_undo 10 = .ok (.aload_n 0, 1) := by decide +kernel
theorem dX10_undo_11 : decode cX10_undo 11 = .ok (.dup, 1) := by decide +kernel
theorem dX10_undo_12 : decode cX10_undo 12 = .ok (.getfield 81, 3) := by decide +kernel
theorem dX10_undo_15 : decode cX10_undo 15 = .ok (.iconst 1, 1) := by decide +kernel
theorem dX10_undo_16 : decode cX10_undo 16 = .ok (.isub, 1) := by decide +kernel
theorem dX10_undo_17 : decode cX10_undo 17 = .ok (.putfield 81, 3) := by decide +kernel
theorem dX10_undo_20 : decode cX10_undo 20 = .ok (.aload_n 0, 1) := by decide +kernel
theorem dX10_undo_21 : decode cX10_undo 21 = .ok (.getfield 81, 3) := by decide +kernel
theorem dX10_undo_24 : decode cX10_undo 24 = .ok (.ireturn, 1) := by decide +kernel
theorem dX10_isSetting_0 : decode cX10_isSetting 0 = .ok (.iload_n 0, 1) := by decide +kernel
theorem dX10_isSetting_1 : decode cX10_isSetting 1 = .ok (.ifCond .ne 12, 3) := by decide +kernel
theorem dX10_isSetting_4 : decode cX10_isSetting 4 = .ok (.iload_n 1, 1) := by decide +kernel
theorem dX10_isSetting_5 : decode cX10_isSetting 5 = .ok (.iconst 0, 1) := by decide +kernel
theorem dX10_isSetting_6 : decode cX10_isSetting 6 = .ok (.iconst 3, 1) := by decide +kernel
theorem dX10_isSetting_7 : decode cX10_isSetting 7 = .ok (.invokestatic 77, 3) := by decide +kernel
theorem dX10_isSetting_10 : decode cX10_isSetting 10 = .ok (.goto 41, 3) := by decide +kernel
theorem dX10_isSetting_13 : decode cX10_isSetting 13 = .ok (.iload_n 0, 1) := by decide +kernel
theorem dX10_isSetting_14 : decode cX10_isSetting 14 = .ok (.iconst 1, 1) := by decide +kernel
theorem dX10_isSetting_15 : decode cX10_isSetting 15 = .ok (.if_icmp .ne 13, 3) := by decide +kernel
theorem dX10_isSetting_18 : decode cX10_isSetting 18 = .ok (.iload_n 1, 1) := by decide +kernel
theorem dX10_isSetting_19 : decode cX10_isSetting 19 = .ok (.iconst 0, 1) := by decide +kernel
theorem dX10_isSetting_20 : decode cX10_isSetting 20 = .ok (.bipush 40, 2) := by decide +kernel
theorem dX10_isSetting_22 : decode cX10_isSetting 22 = .ok (.invokestatic 77, 3) := by decide +kernel
theorem dX10_isSetting_25 : decode cX10_isSetting 25 = .ok (.goto 26, 3) := by decide +kernel
theorem dX10_isSetting_28 : decode cX10_isSetting 28 = .ok (.iload_n 0, 1) := by decide +kernel
theorem dX10_isSetting_29 : decode cX10_isSetting 29 = .ok (.iconst 2, 1) := by decide +kernel
theorem dX10_isSetting_30 : decode cX10_isSetting 30 = .ok (.iconst 3, 1) := by decide +kernel
theorem dX10_isSetting_31 : decode cX10_isSetting 31 = .ok (.invokestatic 77, 3) := by decide +kernel
theorem dX10_isSetting_34 : decode cX10_isSetting 34 = .ok (.ifCond .eq 16, 3) := by decide +kernel
theorem dX10_isSetting_37 : decode cX10_isSetting 37 = .ok (.iload_n 1, 1) := by decide +kernel
theorem dX10_isSetting_38 : decode cX10_isSetting 38 = .ok (.iconst 1, 1) := by decide +kernel
theorem dX10_isSetting_39 : decode cX10_isSetting 39 = .ok (.iconst 4, 1) := by decide +kernel
theorem dX10_isSetting_40 : decode cX10_isSetting 40 = .ok (.invokestatic 77, 3) := by decide +kernel
theorem dX10_isSetting_43 : decode cX10_isSetting 43 = .ok (.ifCond .eq 7, 3) := by decide +kernel
theorem dX10_isSetting_46 : decode cX10_isSetting 46 = .ok (.iconst 1, 1) := by decide +kernel
theorem dX10_isSetting_47 : decode cX10_isSetting 47 = .ok (.goto 4, 3) := by decide +kernel
theorem dX10_isSetting_50 : decode cX10_isSetting 50 = .ok (.iconst 0, 1) := by decide +kernel
theorem dX10_isSetting_51 : decode cX10_isSetting 51 = .ok (.ireturn, 1) := by decide +kernel
theorem dX10_set_0 : decode cX10_set 0 = .ok (.iload_n 1, 1) := by decide +kernel
theorem dX10_set_1 : decode cX10_set 1 = .ok (.iload_n 2, 1) := by decide +kernel
theorem dX10_set_2 : decode cX10_set 2 = .ok (.invokestatic 85, 3) := by decide +kernel
theorem dX10_set_5 : decode cX10_set 5 = .ok (.ifCond .ne 6, 3) := by decide +kernel
theorem dX10_set_8 : decode cX10_set 8 = .ok (.bipush (-2), 2) := by decide +kernel
theorem dX10_set_10 : decode cX10_set 10 = .ok (.ireturn, 1) := by decide +kernel
theorem dX10_set_11 : decode cX10_set 11 = .ok (.aload_n 0, 1) := by decide +kernel
theorem dX10_set_12 : decode cX10_set 12 = .ok (.getfield 13, 3) := by decide +kernel
theorem dX10_set_15 : decode cX10_set 15 = .ok (.iload_n 1, 1) := by decide +kernel
theorem dX10_set_16 : decode cX10_set 16 = .ok (.iaload, 1) := by decide +kernel
theorem dX10_set_17 : decode cX10_set 17 = .ok (.istore_n 3, 1) := by decide +kernel
theorem dX10_set_18 : decode cX10_set 18 = .ok (.aload_n 0, 1) := by decide +kernel
theorem dX10_set_19 : decode cX10_set 19 = .ok (.getfield 13, 3) := by decide +kernel
theorem dX10_set_22 : decode cX10_set 22 = .ok (.iload_n 1, 1) := by decide +kernel
theorem dX10_set_23 : decode cX10_set 23 = .ok (.iload_n 2, 1) := by decide +kernel
theorem dX10_set_24 : decode cX10_set 24 = .ok (.iastore, 1) := by decide +kernel
theorem dX10_set_25 : decode cX10_set 25 = .ok (.iload_n 3, 1) := by decide +kernel
theorem dX10_set_26 : decode cX10_set 26 = .ok (.ireturn, 1) := by decide +kernel
theorem dX10_tell_0 : decode cX10_tell 0 = .ok (.iload_n 1, 1) := by decide +kernel
theorem dX10_tell_1 : decode cX10_tell 1 = .ok (.sipush (-4095), 3) := by decide +kernel
theorem dX10_tell_4 : decode cX10_tell 4 = .ok (.iand, 1) := by decide +kernel
theorem dX10_tell_5 : decode cX10_tell 5 = .ok (.ifCond .eq 6, 3) := by decide +kernel
theorem dX10_tell_8 : decode cX10_tell 8 = .ok (.bipush (-2), 2) := by decide +kernel
theorem dX10_tell_10 : decode cX10_tell 10 = .ok (.ireturn, 1) := by decide +kernel
theorem dX10_tell_11 : decode cX10_tell 11 = .ok (.aload_n 0, 1) := by decide +kernel
theorem dX10_tell_12 : decode cX10_tell 12 = .ok (.getfield 89, 3) := by decide +kernel
theorem dX10_tell_15 : decode cX10_tell 15 = .ok (.istore_n 2, 1) := by decide +kernel
theorem dX10_tell_16 : decode cX10_tell 16 = .ok (.aload_n 0, 1) := by decide +kernel
theorem dX10_tell_17 : decode cX10_tell 17 = .ok (.iload_n 1, 1) := by decide +kernel
theorem dX10_tell_18 : decode cX10_tell 18 = .ok (.putfield 89, 3) := by decide +kernel
theorem dX10_tell_21 : decode cX10_tell 21 = .ok (.iload_n 2, 1) := by decide +kernel
theorem dX10_tell_22 : decode cX10_tell 22 = .ok (.ireturn, 1) := by decide +kernel
theorem dX10_read_0 : decode cX10_read 0 = .ok (.iload_n 1, 1) := by decide +kernel
theorem dX10_read_1 : decode cX10_read 1 = .ok (.invokestatic 92, 3) := by decide +kernel
theorem dX10_read_4 : decode cX10_read 4 = .ok (.ifCond .ne 6, 3) := by decide +kernel
theorem dX10_read_7 : decode cX10_read 7 = .ok (.bipush (-2), 2) := by decide +kernel
theorem dX10_read_9 : decode cX10_read 9 = .ok (.ireturn, 1) := by decide +kernel
theorem dX10_read_10 : decode cX10_read 10 = .ok (.aload_n 0, 1) := by decide +kernel
theorem dX10_read_11 : decode cX10_read 11 = .ok (.getfield 61, 3) := by decide +kernel
theorem dX10_read_14 : decode cX10_read 14 = .ok (.iload_n 1, 1) := by decide +kernel
theorem dX10_read_15 : decode cX10_read 15 = .ok (.baload, 1) := by decide +kernel
theorem dX10_read_16 : decode cX10_read 16 = .ok (.ifCond .ne 9, 3) := by decide +kernel
theorem dX10_read_19 : decode cX10_read 19 = .ok (.aload_n 0, 1) := by decide +kernel
theorem dX10_read_20 : decode cX10_read 20 = .ok (.iconst 1, 1) := by decide +kernel
theorem dX10_read_21 : decode cX10_read 21 = .ok (.invokevirtual 96, 3) := by decide +kernel
theorem dX10_read_24 : decode cX10_read 24 = .ok (.ireturn, 1) := by decide +kernel
theorem dX10_read_25 : decode cX10_read 25 = .ok (.iconst 0, 1) := by decide +kernel
theorem dX10_read_26 : decode cX10_read 26 = .ok (.istore_n 2, 1) := by decide +kernel
theorem dX10_read_27 : decode cX10_read 27 = .ok (.iload_n 2, 1) := by decide +kernel
theorem dX10_read_28 : decode cX10_read 28 = .ok (.aload_n 0, 1) := by decide +kernel
theorem dX10_read_29 : decode cX10_read 29 = .ok (.getfield 68, 3) := by decide +kernel
theorem dX10_read_32 : decode cX10_read 32 = .ok (.iload_n 1, 1) := by decide +kernel
theorem dX10_read_33 : decode cX10_read 33 = .ok (.iaload, 1) := by decide +kernel
theorem dX10_read_34 : decode cX10_read 34 = .ok (.if_icmp .ge 27, 3) := by decide +kernel
theorem dX10_read_37 : decode cX10_read 37 = .ok (.aload_n 0, 1) := by decide +kernel
theorem dX10_read_38 : decode cX10_read 38 = .ok (.aload_n 0, 1) := by decide +kernel
theorem dX10_read_39 : decode cX10_read 39 = .ok (.getfield 71, 3) := by decide +kernel
theorem dX10_read_42 : decode cX10_read 42 = .ok (.bipush 60, 2) := by decide +kernel
theorem dX10_read_44 : decode cX10_read 44 = .ok (.iload_n 1, 1) := by decide +kernel
theorem dX10_read_45 : decode cX10_read 45 = .ok (.imul, 1) := by decide +kernel
theorem dX10_read_46 : decode cX10_read 46 = .ok (.iload_n 2, 1) := by decide +kernel
theorem dX10_read_47 : decode cX10_read 47 = .ok (.iadd, 1) := by decide +kernel
theorem dX10_read_48 : decode cX10_read 48 = .ok (.iaload, 1) := by decide +kernel
theorem dX10_read_49 : decode cX10_read 49 = .ok (.invokevirtual 100, 3) := by decide +kernel
theorem dX10_read_52 : decode cX10_read 52 = .ok (.ifCond .le 9, 3) := by decide +kernel
theorem dX10_read_55 : decode cX10_read 55 = .ok (.iinc 2 1, 3) := by decide +kernel
theorem dX10_read_58 : decode cX10_read 58 = .ok (.goto (-31), 3) := by decide +kernel
theorem dX10_read_61 : decode cX10_read 61 = .ok (.iload_n 2, 1) := by decide +kernel
theorem dX10_read_62 : decode cX10_read 62 = .ok (.ireturn, 1) := by decide +kernel
theorem dX10_fails_0 : decode cX10_fails 0 = .ok (.aload_n 0, 1) := by decide +kernel
theorem dX10_fails_1 : decode cX10_fails 1 = .ok (.iload_n 1, 1) := by decide +kernel
theorem dX10_fails_2 : decode cX10_fails 2 = .ok (.putfield 103, 3) := by decide +kernel
theorem dX10_fails_5 : decode cX10_fails 5 = .ok (.aload_n 0, 1) := by decide +kernel
theorem dX10_fails_6 : decode cX10_fails 6 = .ok (.iload_n 2, 1) := by decide +kernel
theorem dX10_fails_7 : decode cX10_fails 7 = .ok (.putfield 106, 3) := by decide +kernel
theorem dX10_fails_10 : decode cX10_fails 10 = .ok (.aload_n 0, 1) := by decide +kernel
theorem dX10_fails_11 : decode cX10_fails 11 = .ok (.aload_n 0, 1) := by decide +kernel
theorem dX10_fails_12 : decode cX10_fails 12 = .ok (.getfield 109, 3) := by decide +kernel
theorem dX10_fails_15 : decode cX10_fails 15 = .ok (.putfield 112, 3) := by decide +kernel
theorem dX10_fails_18 : decode cX10_fails 18 = .ok (.return_, 1) := by decide +kernel
theorem dX10_whyNot_0 : decode cX10_whyNot 0 = .ok (.iload_n 1, 1) := by decide +kernel
theorem dX10_whyNot_1 : decode cX10_whyNot 1 = .ok (.bipush 97, 2) := by decide +kernel
theorem dX10_whyNot_3 : decode cX10_whyNot 3 = .ok (.bipush 122, 2) := by decide +kernel
theorem dX10_whyNot_5 : decode cX10_whyNot 5 = .ok (.invokestatic 77, 3) := by decide +kernel
theorem dX10_whyNot_8 : decode cX10_whyNot 8 = .ok (.istore 5, 2) := by decide +kernel
theorem dX10_whyNot_10 : decode cX10_whyNot 10 = .ok (.iload 5, 2) := by decide +kernel
theorem dX10_whyNot_12 : decode cX10_whyNot 12 = .ok (.ifCond .ne 17, 3) := by decide +kernel
theorem dX10_whyNot_15 : decode cX10_whyNot 15 = .ok (.iload_n 1, 1) := by decide +kernel
theorem dX10_whyNot_16 : decode cX10_whyNot 16 = .ok (.bipush 32, 2) := by decide +kernel
theorem dX10_whyNot_18 : decode cX10_whyNot 18 = .ok (.if_icmp .eq 11, 3) := by decide +kernel
theorem dX10_whyNot_21 : decode cX10_whyNot 21 = .ok (.iload_n 1, 1) := by decide +kernel
theorem dX10_whyNot_22 : decode cX10_whyNot 22 = .ok (.bipush 46, 2) := by decide +kernel
theorem dX10_whyNot_24 : decode cX10_whyNot 24 = .ok (.if_icmp .eq 5, 3) := by decide +kernel
theorem dX10_whyNot_27 : decode cX10_whyNot 27 = .ok (.iconst 1, 1) := by decide +kernel
theorem dX10_whyNot_28 : decode cX10_whyNot 28 = .ok (.ireturn, 1) := by decide +kernel
theorem dX10_whyNot_29 : decode cX10_whyNot 29 = .ok (.iload 5, 2) := by decide +kernel
theorem dX10_whyNot_31 : decode cX10_whyNot 31 = .ok (.ifCond .ne 21, 3) := by decide +kernel
theorem dX10_whyNot_34 : decode cX10_whyNot 34 = .ok (.iload_n 2, 1) := by decide +kernel
theorem dX10_whyNot_35 : decode cX10_whyNot 35 = .ok (.iconst 2, 1) := by decide +kernel
theorem dX10_whyNot_36 : decode cX10_whyNot 36 = .ok (.if_icmp .eq 16, 3) := by decide +kernel
theorem dX10_whyNot_39 : decode cX10_whyNot 39 = .ok (.iload_n 2, 1) := by decide +kernel
theorem dX10_whyNot_40 : decode cX10_whyNot 40 = .ok (.iconst 1, 1) := by decide +kernel
theorem dX10_whyNot_41 : decode cX10_whyNot 41 = .ok (.if_icmp .ne 9, 3) := by decide +kernel
theorem dX10_whyNot_44 : decode cX10_whyNot 44 = .ok (.iload_n 1, 1) := by decide +kernel
theorem dX10_whyNot_45 : decode cX10_whyNot 45 = .ok (.bipush 32, 2) := by decide +kernel
theorem dX10_whyNot_47 : decode cX10_whyNot 47 = .ok (.if_icmp .eq 5, 3) := by decide +kernel
theorem dX10_whyNot_50 : decode cX10_whyNot 50 = .ok (.iconst 3, 1) := by decide +kernel
theorem dX10_whyNot_51 : decode cX10_whyNot 51 = .ok (.ireturn, 1) := by decide +kernel
theorem dX10_whyNot_52 : decode cX10_whyNot 52 = .ok (.iload 5, 2) := by decide +kernel
theorem dX10_whyNot_54 : decode cX10_whyNot 54 = .ok (.ifCond .eq 25, 3) := by decide +kernel
theorem dX10_whyNot_57 : decode cX10_whyNot 57 = .ok (.iload_n 2, 1) := by decide +kernel
theorem dX10_whyNot_58 : decode cX10_whyNot 58 = .ok (.iconst 2, 1) := by decide +kernel
theorem dX10_whyNot_59 : decode cX10_whyNot 59 = .ok (.if_icmp .eq 20, 3) := by decide +kernel
theorem dX10_whyNot_62 : decode cX10_whyNot 62 = .ok (.aload_n 0, 1) := by decide +kernel
theorem dX10_whyNot_63 : decode cX10_whyNot 63 = .ok (.getfield 109, 3) := by decide +kernel
theorem dX10_whyNot_66 : decode cX10_whyNot 66 = .ok (.bipush 12, 2) := by decide +kernel
theorem dX10_whyNot_68 : decode cX10_whyNot 68 = .ok (.if_icmp .eq 9, 3) := by decide +kernel
theorem dX10_whyNot_71 : decode cX10_whyNot 71 = .ok (.iload_n 3, 1) := by decide +kernel
theorem dX10_whyNot_72 : decode cX10_whyNot 72 = .ok (.bipush 9, 2) := by decide +kernel
theorem dX10_whyNot_74 : decode cX10_whyNot 74 = .ok (.if_icmp .ne 5, 3) := by decide +kernel
theorem dX10_whyNot_77 : decode cX10_whyNot 77 = .ok (.iconst 4, 1) := by decide +kernel
theorem dX10_whyNot_78 : decode cX10_whyNot 78 = .ok (.ireturn, 1) := by decide +kernel
theorem dX10_whyNot_79 : decode cX10_whyNot 79 = .ok (.iload 5, 2) := by decide +kernel
theorem dX10_whyNot_81 : decode cX10_whyNot 81 = .ok (.ifCond .eq 19, 3) := by decide +kernel
theorem dX10_whyNot_84 : decode cX10_whyNot 84 = .ok (.iload_n 2, 1) := by decide +kernel
theorem dX10_whyNot_85 : decode cX10_whyNot 85 = .ok (.iconst 2, 1) := by decide +kernel
theorem dX10_whyNot_86 : decode cX10_whyNot 86 = .ok (.if_icmp .ne 14, 3) := by decide +kernel
theorem dX10_whyNot_89 : decode cX10_whyNot 89 = .ok (.iload 4, 2) := by decide +kernel
theorem dX10_whyNot_91 : decode cX10_whyNot 91 = .ok (.bipush 10, 2) := by decide +kernel
theorem dX10_whyNot_93 : decode cX10_whyNot 93 = .ok (.if_icmp .ne 7, 3) := by decide +kernel
theorem dX10_whyNot_96 : decode cX10_whyNot 96 = .ok (.iconst 2, 1) := by decide +kernel
theorem dX10_whyNot_97 : decode cX10_whyNot 97 = .ok (.goto 4, 3) := by decide +kernel
theorem dX10_whyNot_100 : decode cX10_whyNot 100 = .ok (.iconst (-1), 1) := by decide +kernel
theorem dX10_whyNot_101 : decode cX10_whyNot 101 = .ok (.ireturn, 1) := by decide +kernel
theorem dX10_begins_0 : decode cX10_begins 0 = .ok (.aload_n 0, 1) := by decide +kernel
theorem dX10_begins_1 : decode cX10_begins 1 = .ok (.getfield 16, 3) := by decide +kernel
theorem dX10_begins_4 : decode cX10_begins 4 = .ok (.aload_n 0, 1) := by decide +kernel
theorem dX10_begins_5 : decode cX10_begins 5 = .ok (.getfield 115, 3) := by decide +kernel
theorem dX10_begins_8 : decode cX10_begins 8 = .ok (.iload_n 1, 1) := by decide +kernel
theorem dX10_begins_9 : decode cX10_begins 9 = .ok (.iastore, 1) := by decide +kernel
theorem dX10_begins_10 : decode cX10_begins 10 = .ok (.aload_n 0, 1) := by decide +kernel
theorem dX10_begins_11 : decode cX10_begins 11 = .ok (.getfield 19, 3) := by decide +kernel
theorem dX10_begins_14 : decode cX10_begins 14 = .ok (.aload_n 0, 1) := by decide +kernel
theorem dX10_begins_15 : decode cX10_begins 15 = .ok (.getfield 115, 3) := by decide +kernel
theorem dX10_begins_18 : decode cX10_begins 18 = .ok (.iconst 0, 1) := by decide +kernel
theorem dX10_begins_19 : decode cX10_begins 19 = .ok (.iastore, 1) := by decide +kernel
theorem dX10_begins_20 : decode cX10_begins 20 = .ok (.aload_n 0, 1) := by decide +kernel
theorem dX10_begins_21 : decode cX10_begins 21 = .ok (.getfield 22, 3) := by decide +kernel
theorem dX10_begins_24 : decode cX10_begins 24 = .ok (.aload_n 0, 1) := by decide +kernel
theorem dX10_begins_25 : decode cX10_begins 25 = .ok (.getfield 115, 3) := by decide +kernel
theorem dX10_begins_28 : decode cX10_begins 28 = .ok (.aload_n 0, 1) := by decide +kernel
theorem dX10_begins_29 : decode cX10_begins 29 = .ok (.getfield 109, 3) := by decide +kernel
theorem dX10_begins_32 : decode cX10_begins 32 = .ok (.iastore, 1) := by decide +kernel
theorem dX10_begins_33 : decode cX10_begins 33 = .ok (.iload_n 2, 1) := by decide +kernel
theorem dX10_begins_34 : decode cX10_begins 34 = .ok (.ifCond .ne 16, 3) := by decide +kernel
theorem dX10_begins_37 : decode cX10_begins 37 = .ok (.aload_n 0, 1) := by decide +kernel
theorem dX10_begins_38 : decode cX10_begins 38 = .ok (.getfield 34, 3) := by decide +kernel
theorem dX10_begins_41 : decode cX10_begins 41 = .ok (.aload_n 0, 1) := by decide +kernel
theorem dX10_begins_42 : decode cX10_begins 42 = .ok (.getfield 109, 3) := by decide +kernel
theorem dX10_begins_45 : decode cX10_begins 45 = .ok (.aload_n 0, 1) := by decide +kernel
theorem dX10_begins_46 : decode cX10_begins 46 = .ok (.getfield 115, 3) := by decide +kernel
theorem dX10_begins_49 : decode cX10_begins 49 = .ok (.iastore, 1) := by decide +kernel
theorem dX10_begins_50 : decode cX10_begins 50 = .ok (.aload_n 0, 1) := by decide +kernel
theorem dX10_begins_51 : decode cX10_begins 51 = .ok (.dup, 1) := by decide +kernel
theorem dX10_begins_52 : decode cX10_begins 52 = .ok (.getfield 115, 3) := by decide +kernel
theorem dX10_begins_55 : decode cX10_begins 55 = .ok (.iconst 1, 1) := by decide +kernel
theorem dX10_begins_56 : decode cX10_begins 56 = .ok (.iadd, 1) := by decide +kernel
theorem dX10_begins_57 : decode cX10_begins 57 = .ok (.putfield 115, 3) := by decide +kernel
theorem dX10_begins_60 : decode cX10_begins 60 = .ok (.return_, 1) := by decide +kernel
theorem dX10_readsText_0 : decode cX10_readsText 0 = .ok (.aload_n 0, 1) := by decide +kernel
theorem dX10_readsText_1 : decode cX10_readsText 1 = .ok (.iconst 0, 1) := by decide +kernel
theorem dX10_readsText_2 : decode cX10_readsText 2 = .ok (.putfield 109, 3) := by decide +kernel
theorem dX10_readsText_5 : decode cX10_readsText 5 = .ok (.aload_n 0, 1) := by decide +kernel
theorem dX10_readsText_6 : decode cX10_readsText 6 = .ok (.iconst 0, 1) := by decide +kernel
theorem dX10_readsText_7 : decode cX10_readsText 7 = .ok (.putfield 115, 3) := by decide +kernel
theorem dX10_readsText_10 : decode cX10_readsText 10 = .ok (.aload_n 0, 1) := by decide +kernel
theorem dX10_readsText_11 : decode cX10_readsText 11 = .ok (.iconst (-1), 1) := by decide +kernel
theorem dX10_readsText_12 : decode cX10_readsText 12 = .ok (.putfield 103, 3) := by decide +kernel
theorem dX10_readsText_15 : decode cX10_readsText 15 = .ok (.aload_n 0, 1) := by decide +kernel
theorem dX10_readsText_16 : decode cX10_readsText 16 = .ok (.iconst (-1), 1) := by decide +kernel
theorem dX10_readsText_17 : decode cX10_readsText 17 = .ok (.putfield 106, 3) := by decide +kernel
theorem dX10_readsText_20 : decode cX10_readsText 20 = .ok (.aload_n 0, 1) := by decide +kernel
theorem dX10_readsText_21 : decode cX10_readsText 21 = .ok (.iconst (-1), 1) := by decide +kernel
theorem dX10_readsText_22 : decode cX10_readsText 22 = .ok (.putfield 112, 3) := by decide +kernel
theorem dX10_readsText_25 : decode cX10_readsText 25 = .ok (.iconst 0, 1) := by decide +kernel
theorem dX10_readsText_26 : decode cX10_readsText 26 = .ok (.istore_n 1, 1) := by decide +kernel
theorem dX10_readsText_27 : decode cX10_readsText 27 = .ok (.iconst 0, 1) := by decide +kernel
theorem dX10_readsText_28 : decode cX10_readsText 28 = .ok (.istore_n 2, 1) := by decide +kernel
theorem dX10_readsText_29 : decode cX10_readsText 29 = .ok (.iconst 0, 1) := by decide +kernel
theorem dX10_readsText_30 : decode cX10_readsText 30 = .ok (.istore_n 3, 1) := by decide +kernel
theorem dX10_readsText_31 : decode cX10_readsText 31 = .ok (.iload_n 3, 1) := by decide +kernel
theorem dX10_readsText_32 : decode cX10_readsText 32 = .ok (.aload_n 0, 1) := by decide +kernel
theorem dX10_readsText_33 : decode cX10_readsText 33 = .ok (.getfield 81, 3) := by decide +kernel
theorem dX10_readsText_36 : decode cX10_readsText 36 = .ok (.if_icmp .ge 142, 3) := by decide +kernel
theorem dX10_readsText_39 : decode cX10_readsText 39 = .ok (.aload_n 0, 1) := by decide +kernel
theorem dX10_readsText_40 : decode cX10_readsText 40 = .ok (.getfield 7, 3) := by decide +kernel
theorem dX10_readsText_43 : decode cX10_readsText 43 = .ok (.iload_n 3, 1) := by decide +kernel
theorem dX10_readsText_44 : decode cX10_readsText 44 = .ok (.iaload, 1) := by decide +kernel
theorem dX10_readsText_45 : decode cX10_readsText 45 = .ok (.istore 4, 2) := by decide +kernel
theorem dX10_readsText_47 : decode cX10_readsText 47 = .ok (.aload_n 0, 1) := by decide +kernel
theorem dX10_readsText_48 : decode cX10_readsText 48 = .ok (.iload 4, 2) := by decide +kernel
theorem dX10_readsText_50 : decode cX10_readsText 50 = .ok (.iload_n 1, 1) := by decide +kernel
theorem dX10_readsText_51 : decode cX10_readsText 51 = .ok (.iload_n 2, 1) := by decide +kernel
theorem dX10_readsText_52 : decode cX10_readsText 52 = .ok (.iload_n 1, 1) := by decide +kernel
theorem dX10_readsText_53 : decode cX10_readsText 53 = .ok (.iconst 2, 1) := by decide +kernel
theorem dX10_readsText_54 : decode cX10_readsText 54 = .ok (.if_icmp .ne 17, 3) := by decide +kernel
theorem dX10_readsText_57 : decode cX10_readsText 57 = .ok (.aload_n 0, 1) := by decide +kernel
theorem dX10_readsText_58 : decode cX10_readsText 58 = .ok (.getfield 19, 3) := by decide +kernel
theorem dX10_readsText_61 : decode cX10_readsText 61 = .ok (.aload_n 0, 1) := by decide +kernel
theorem dX10_readsText_62 : decode cX10_readsText 62 = .ok (.getfield 115, 3) := by decide +kernel
theorem dX10_readsText_65 : decode cX10_readsText 65 = .ok (.iconst 1, 1) := by decide +kernel
theorem dX10_readsText_66 : decode cX10_readsText 66 = .ok (.isub, 1) := by decide +kernel
theorem dX10_readsText_67 : decode cX10_readsText 67 = .ok (.iaload, 1) := by decide +kernel
theorem dX10_readsText_68 : decode cX10_readsText 68 = .ok (.goto 4, 3) := by decide +kernel
theorem dX10_readsText_71 : decode cX10_readsText 71 = .ok (.iconst 0, 1) := by decide +kernel
theorem dX10_readsText_72 : decode cX10_readsText 72 = .ok (.invokevirtual 118, 3) := by decide +kernel
theorem dX10_readsText_75 : decode cX10_readsText 75 = .ok (.istore 5, 2) := by decide +kernel
theorem dX10_readsText_77 : decode cX10_readsText 77 = .ok (.iload 5, 2) := by decide +kernel
theorem dX10_readsText_79 : decode cX10_readsText 79 = .ok (.iconst (-1), 1) := by decide +kernel
theorem dX10_readsText_80 : decode cX10_readsText 80 = .ok (.if_icmp .eq 11, 3) := by decide +kernel
theorem dX10_readsText_83 : decode cX10_readsText 83 = .ok (.aload_n 0, 1) := by decide +kernel
theorem dX10_readsText_84 : decode cX10_readsText 84 = .ok (.iload_n 3, 1) := by decide +kernel
theorem dX10_readsText_85 : decode cX10_readsText 85 = .ok (.iload 5, 2) := by decide +kernel
theorem dX10_readsText_87 : decode cX10_readsText 87 = .ok (.invokevirtual 122, 3) := by decide +kernel
theorem dX10_readsText_90 : decode cX10_readsText 90 = .ok (.return_, 1) := by decide +kernel
theorem dX10_readsText_91 : decode cX10_readsText 91 = .ok (.iload 4, 2) := by decide +kernel
theorem dX10_readsText_93 : decode cX10_readsText 93 = .ok (.bipush 97, 2) := by decide +kernel
theorem dX10_readsText_95 : decode cX10_readsText 95 = .ok (.bipush 122, 2) := by decide +kernel
theorem dX10_readsText_97 : decode cX10_readsText 97 = .ok (.invokestatic 77, 3) := by decide +kernel
theorem dX10_readsText_100 : decode cX10_readsText 100 = .ok (.ifCond .eq 37, 3) := by decide +kernel
theorem dX10_readsText_103 : decode cX10_readsText 103 = .ok (.iload_n 1, 1) := by decide +kernel
theorem dX10_readsText_104 : decode cX10_readsText 104 = .ok (.iconst 2, 1) := by decide +kernel
theorem dX10_readsText_105 : decode cX10_readsText 105 = .ok (.if_icmp .eq 12, 3) := by decide +kernel
theorem dX10_readsText_108 : decode cX10_readsText 108 = .ok (.aload_n 0, 1) := by decide +kernel
theorem dX10_readsText_109 : decode cX10_readsText 109 = .ok (.iload_n 3, 1) := by decide +kernel
theorem dX10_readsText_110 : decode cX10_readsText 110 = .ok (.iload_n 2, 1) := by decide +kernel
theorem dX10_readsText_111 : decode cX10_readsText 111 = .ok (.invokevirtual 126, 3) := by decide +kernel
theorem dX10_readsText_114 : decode cX10_readsText 114 = .ok (.iinc 2 1, 3) := by decide +kernel
theorem dX10_readsText_117 : decode cX10_readsText 117 = .ok (.aload_n 0, 1) := by decide +kernel
theorem dX10_readsText_118 : decode cX10_readsText 118 = .ok (.getfield 19, 3) := by decide +kernel
theorem dX10_readsText_121 : decode cX10_readsText 121 = .ok (.aload_n 0, 1) := by decide +kernel
theorem dX10_readsText_122 : decode cX10_readsText 122 = .ok (.getfield 115, 3) := by decide +kernel
theorem dX10_readsText_125 : decode cX10_readsText 125 = .ok (.iconst 1, 1) := by decide +kernel
theorem dX10_readsText_126 : decode cX10_readsText 126 = .ok (.isub, 1) := by decide +kernel
theorem dX10_readsText_127 : decode cX10_readsText 127 = .ok (.dup2, 1) := by decide +kernel
theorem dX10_readsText_128 : decode cX10_readsText 128 = .ok (.iaload, 1) := by decide +kernel
theorem dX10_readsText_129 : decode cX10_readsText 129 = .ok (.iconst 1, 1) := by decide +kernel
theorem dX10_readsText_130 : decode cX10_readsText 130 = .ok (.iadd, 1) := by decide +kernel
theorem dX10_readsText_131 : decode cX10_readsText 131 = .ok (.iastore, 1) := by decide +kernel
theorem dX10_readsText_132 : decode cX10_readsText 132 = .ok (.iconst 2, 1) := by decide +kernel
theorem dX10_readsText_133 : decode cX10_readsText 133 = .ok (.istore_n 1, 1) := by decide +kernel
theorem dX10_readsText_134 : decode cX10_readsText 134 = .ok (.goto 38, 3) := by decide +kernel
theorem dX10_readsText_137 : decode cX10_readsText 137 = .ok (.iload 4, 2) := by decide +kernel
theorem dX10_readsText_139 : decode cX10_readsText 139 = .ok (.bipush 46, 2) := by decide +kernel
theorem dX10_readsText_141 : decode cX10_readsText 141 = .ok (.if_icmp .ne 20, 3) := by decide +kernel
theorem dX10_readsText_144 : decode cX10_readsText 144 = .ok (.aload_n 0, 1) := by decide +kernel
theorem dX10_readsText_145 : decode cX10_readsText 145 = .ok (.dup, 1) := by decide +kernel
theorem dX10_readsText_146 : decode cX10_readsText 146 = .ok (.getfield 109, 3) := by decide +kernel
theorem dX10_readsText_149 : decode cX10_readsText 149 = .ok (.iconst 1, 1) := by decide +kernel
theorem dX10_readsText_150 : decode cX10_readsText 150 = .ok (.iadd, 1) := by decide +kernel
theorem dX10_readsText_151 : decode cX10_readsText 151 = .ok (.putfield 109, 3) := by decide +kernel
theorem dX10_readsText_154 : decode cX10_readsText 154 = .ok (.iconst 0, 1) := by decide +kernel
theorem dX10_readsText_155 : decode cX10_readsText 155 = .ok (.istore_n 2, 1) := by decide +kernel
theorem dX10_readsText_156 : decode cX10_readsText 156 = .ok (.iconst 1, 1) := by decide +kernel
theorem dX10_readsText_157 : decode cX10_readsText 157 = .ok (.istore_n 1, 1) := by decide +kernel
theorem dX10_readsText_158 : decode cX10_readsText 158 = .ok (.goto 14, 3) := by decide +kernel
theorem dX10_readsText_161 : decode cX10_readsText 161 = .ok (.iload_n 1, 1) := by decide +kernel
theorem dX10_readsText_162 : decode cX10_readsText 162 = .ok (.iconst 1, 1) := by decide +kernel
theorem dX10_readsText_163 : decode cX10_readsText 163 = .ok (.if_icmp .ne 7, 3) := by decide +kernel
theorem dX10_readsText_166 : decode cX10_readsText 166 = .ok (.iconst 0, 1) := by decide +kernel
theorem dX10_readsText_167 : decode cX10_readsText 167 = .ok (.goto 4, 3) := by decide +kernel
theorem dX10_readsText_170 : decode cX10_readsText 170 = .ok (.iconst 3, 1) := by decide +kernel
theorem dX10_readsText_171 : decode cX10_readsText 171 = .ok (.istore_n 1, 1) := by decide +kernel
theorem dX10_readsText_172 : decode cX10_readsText 172 = .ok (.iinc 3 1, 3) := by decide +kernel
theorem dX10_readsText_175 : decode cX10_readsText 175 = .ok (.goto (-144), 3) := by decide +kernel
theorem dX10_readsText_178 : decode cX10_readsText 178 = .ok (.iload_n 1, 1) := by decide +kernel
theorem dX10_readsText_179 : decode cX10_readsText 179 = .ok (.iconst 1, 1) := by decide +kernel
theorem dX10_readsText_180 : decode cX10_readsText 180 = .ok (.if_icmp .le 12, 3) := by decide +kernel
theorem dX10_readsText_183 : decode cX10_readsText 183 = .ok (.aload_n 0, 1) := by decide +kernel
theorem dX10_readsText_184 : decode cX10_readsText 184 = .ok (.aload_n 0, 1) := by decide +kernel
theorem dX10_readsText_185 : decode cX10_readsText 185 = .ok (.getfield 81, 3) := by decide +kernel
theorem dX10_readsText_188 : decode cX10_readsText 188 = .ok (.iconst 5, 1) := by decide +kernel
theorem dX10_readsText_189 : decode cX10_readsText 189 = .ok (.invokevirtual 122, 3) := by decide +kernel
theorem dX10_readsText_192 : decode cX10_readsText 192 = .ok (.return_, 1) := by decide +kernel
theorem dX10_endsWith_0 : decode cX10_endsWith 0 = .ok (.aload_n 0, 1) := by decide +kernel
theorem dX10_endsWith_1 : decode cX10_endsWith 1 = .ok (.getfield 7, 3) := by decide +kernel
theorem dX10_endsWith_4 : decode cX10_endsWith 4 = .ok (.aload_n 0, 1) := by decide +kernel
theorem dX10_endsWith_5 : decode cX10_endsWith 5 = .ok (.getfield 16, 3) := by decide +kernel
theorem dX10_endsWith_8 : decode cX10_endsWith 8 = .ok (.iload_n 1, 1) := by decide +kernel
theorem dX10_endsWith_9 : decode cX10_endsWith 9 = .ok (.iaload, 1) := by decide +kernel
theorem dX10_endsWith_10 : decode cX10_endsWith 10 = .ok (.aload_n 0, 1) := by decide +kernel
theorem dX10_endsWith_11 : decode cX10_endsWith 11 = .ok (.getfield 19, 3) := by decide +kernel
theorem dX10_endsWith_14 : decode cX10_endsWith 14 = .ok (.iload_n 1, 1) := by decide +kernel
theorem dX10_endsWith_15 : decode cX10_endsWith 15 = .ok (.iaload, 1) := by decide +kernel
theorem dX10_endsWith_16 : decode cX10_endsWith 16 = .ok (.iadd, 1) := by decide +kernel
theorem dX10_endsWith_17 : decode cX10_endsWith 17 = .ok (.iload_n 2, 1) := by decide +kernel
theorem dX10_endsWith_18 : decode cX10_endsWith 18 = .ok (.isub, 1) := by decide +kernel
theorem dX10_endsWith_19 : decode cX10_endsWith 19 = .ok (.iaload, 1) := by decide +kernel
theorem dX10_endsWith_20 : decode cX10_endsWith 20 = .ok (.iload_n 3, 1) := by decide +kernel
theorem dX10_endsWith_21 : decode cX10_endsWith 21 = .ok (.if_icmp .ne 7, 3) := by decide +kernel
theorem dX10_endsWith_24 : decode cX10_endsWith 24 = .ok (.iconst 1, 1) := by decide +kernel
theorem dX10_endsWith_25 : decode cX10_endsWith 25 = .ok (.goto 4, 3) := by decide +kernel
theorem dX10_endsWith_28 : decode cX10_endsWith 28 = .ok (.iconst 0, 1) := by decide +kernel
theorem dX10_endsWith_29 : decode cX10_endsWith 29 = .ok (.ireturn, 1) := by decide +kernel
theorem dX10_longOf_0 : decode cX10_longOf 0 = .ok (.aload_n 0, 1) := by decide +kernel
theorem dX10_longOf_1 : decode cX10_longOf 1 = .ok (.getfield 19, 3) := by decide +kernel
theorem dX10_longOf_4 : decode cX10_longOf 4 = .ok (.iload_n 1, 1) := by decide +kernel
theorem dX10_longOf_5 : decode cX10_longOf 5 = .ok (.iaload, 1) := by decide +kernel
theorem dX10_longOf_6 : decode cX10_longOf 6 = .ok (.istore_n 2, 1) := by decide +kernel
theorem dX10_longOf_7 : decode cX10_longOf 7 = .ok (.iload_n 2, 1) := by decide +kernel
theorem dX10_longOf_8 : decode cX10_longOf 8 = .ok (.bipush 6, 2) := by decide +kernel
theorem dX10_longOf_10 : decode cX10_longOf 10 = .ok (.if_icmp .lt 40, 3) := by decide +kernel
theorem dX10_longOf_13 : decode cX10_longOf 13 = .ok (.aload_n 0, 1) := by decide +kernel
theorem dX10_longOf_14 : decode cX10_longOf 14 = .ok (.iload_n 1, 1) := by decide +kernel
theorem dX10_longOf_15 : decode cX10_longOf 15 = .ok (.iconst 3, 1) := by decide +kernel
theorem dX10_longOf_16 : decode cX10_longOf 16 = .ok (.bipush 105, 2) := by decide +kernel
theorem dX10_longOf_18 : decode cX10_longOf 18 = .ok (.invokevirtual 129, 3) := by decide +kernel
theorem dX10_longOf_21 : decode cX10_longOf 21 = .ok (.ifCond .eq 29, 3) := by decide +kernel
theorem dX10_longOf_24 : decode cX10_longOf 24 = .ok (.aload_n 0, 1) := by decide +kernel
theorem dX10_longOf_25 : decode cX10_longOf 25 = .ok (.iload_n 1, 1) := by decide +kernel
theorem dX10_longOf_26 : decode cX10_longOf 26 = .ok (.iconst 2, 1) := by decide +kernel
theorem dX10_longOf_27 : decode cX10_longOf 27 = .ok (.bipush 110, 2) := by decide +kernel
theorem dX10_longOf_29 : decode cX10_longOf 29 = .ok (.invokevirtual 129, 3) := by decide +kernel
theorem dX10_longOf_32 : decode cX10_longOf 32 = .ok (.ifCond .eq 18, 3) := by decide +kernel
theorem dX10_longOf_35 : decode cX10_longOf 35 = .ok (.aload_n 0, 1) := by decide +kernel
theorem dX10_longOf_36 : decode cX10_longOf 36 = .ok (.iload_n 1, 1) := by decide +kernel
theorem dX10_longOf_37 : decode cX10_longOf 37 = .ok (.iconst 1, 1) := by decide +kernel
theorem dX10_longOf_38 : decode cX10_longOf 38 = .ok (.bipush 103, 2) := by decide +kernel
theorem dX10_longOf_40 : decode cX10_longOf 40 = .ok (.invokevirtual 129, 3) := by decide +kernel
theorem dX10_longOf_43 : decode cX10_longOf 43 = .ok (.ifCond .eq 7, 3) := by decide +kernel
theorem dX10_longOf_46 : decode cX10_longOf 46 = .ok (.iload_n 2, 1) := by decide +kernel
theorem dX10_longOf_47 : decode cX10_longOf 47 = .ok (.iconst 3, 1) := by decide +kernel
theorem dX10_longOf_48 : decode cX10_longOf 48 = .ok (.isub, 1) := by decide +kernel
theorem dX10_longOf_49 : decode cX10_longOf 49 = .ok (.ireturn, 1) := by decide +kernel
theorem dX10_longOf_50 : decode cX10_longOf 50 = .ok (.iload_n 2, 1) := by decide +kernel
theorem dX10_longOf_51 : decode cX10_longOf 51 = .ok (.iconst 5, 1) := by decide +kernel
theorem dX10_longOf_52 : decode cX10_longOf 52 = .ok (.if_icmp .lt 29, 3) := by decide +kernel
theorem dX10_longOf_55 : decode cX10_longOf 55 = .ok (.aload_n 0, 1) := by decide +kernel
theorem dX10_longOf_56 : decode cX10_longOf 56 = .ok (.iload_n 1, 1) := by decide +kernel
theorem dX10_longOf_57 : decode cX10_longOf 57 = .ok (.iconst 2, 1) := by decide +kernel
theorem dX10_longOf_58 : decode cX10_longOf 58 = .ok (.bipush 101, 2) := by decide +kernel
theorem dX10_longOf_60 : decode cX10_longOf 60 = .ok (.invokevirtual 129, 3) := by decide +kernel
theorem dX10_longOf_63 : decode cX10_longOf 63 = .ok (.ifCond .eq 18, 3) := by decide +kernel
theorem dX10_longOf_66 : decode cX10_longOf 66 = .ok (.aload_n 0, 1) := by decide +kernel
theorem dX10_longOf_67 : decode cX10_longOf 67 = .ok (.iload_n 1, 1) := by decide +kernel
theorem dX10_longOf_68 : decode cX10_longOf 68 = .ok (.iconst 1, 1) := by decide +kernel
theorem dX10_longOf_69 : decode cX10_longOf 69 = .ok (.bipush 100, 2) := by decide +kernel
theorem dX10_longOf_71 : decode cX10_longOf 71 = .ok (.invokevirtual 129, 3) := by decide +kernel
theorem dX10_longOf_74 : decode cX10_longOf 74 = .ok (.ifCond .eq 7, 3) := by decide +kernel
theorem dX10_longOf_77 : decode cX10_longOf 77 = .ok (.iload_n 2, 1) := by decide +kernel
theorem dX10_longOf_78 : decode cX10_longOf 78 = .ok (.iconst 2, 1) := by decide +kernel
theorem dX10_longOf_79 : decode cX10_longOf 79 = .ok (.isub, 1) := by decide +kernel
theorem dX10_longOf_80 : decode cX10_longOf 80 = .ok (.ireturn, 1) := by decide +kernel
theorem dX10_longOf_81 : decode cX10_longOf 81 = .ok (.iload_n 2, 1) := by decide +kernel
theorem dX10_longOf_82 : decode cX10_longOf 82 = .ok (.iconst 4, 1) := by decide +kernel
theorem dX10_longOf_83 : decode cX10_longOf 83 = .ok (.if_icmp .lt 31, 3) := by decide +kernel
theorem dX10_longOf_86 : decode cX10_longOf 86 = .ok (.aload_n 0, 1) := by decide +kernel
theorem dX10_longOf_87 : decode cX10_longOf 87 = .ok (.iload_n 1, 1) := by decide +kernel
theorem dX10_longOf_88 : decode cX10_longOf 88 = .ok (.iconst 1, 1) := by decide +kernel
theorem dX10_longOf_89 : decode cX10_longOf 89 = .ok (.bipush 115, 2) := by decide +kernel
theorem dX10_longOf_91 : decode cX10_longOf 91 = .ok (.invokevirtual 129, 3) := by decide +kernel
theorem dX10_longOf_94 : decode cX10_longOf 94 = .ok (.ifCond .eq 20, 3) := by decide +kernel
theorem dX10_longOf_97 : decode cX10_longOf 97 = .ok (.aload_n 0, 1) := by decide +kernel
theorem dX10_longOf_98 : decode cX10_longOf 98 = .ok (.iload_n 1, 1) := by decide +kernel
theorem dX10_longOf_99 : decode cX10_longOf 99 = .ok (.iconst 2, 1) := by decide +kernel
theorem dX10_longOf_100 : decode cX10_longOf 100 = .ok (.bipush 115, 2) := by decide +kernel
theorem dX10_longOf_102 : decode cX10_longOf 102 = .ok (.invokevirtual 129, 3) := by decide +kernel
theorem dX10_longOf_105 : decode cX10_longOf 105 = .ok (.ifCond .ne 9, 3) := by decide +kernel
theorem dX10_longOf_108 : decode cX10_longOf 108 = .ok (.iload_n 2, 1) := by decide +kernel
theorem dX10_longOf_109 : decode cX10_longOf 109 = .ok (.iconst 1, 1) := by decide +kernel
theorem dX10_longOf_110 : decode cX10_longOf 110 = .ok (.isub, 1) := by decide +kernel
theorem dX10_longOf_111 : decode cX10_longOf 111 = .ok (.goto 4, 3) := by decide +kernel
theorem dX10_longOf_114 : decode cX10_longOf 114 = .ok (.iload_n 2, 1) := by decide +kernel
theorem dX10_longOf_115 : decode cX10_longOf 115 = .ok (.ireturn, 1) := by decide +kernel
theorem dX10_isLike_0 : decode cX10_isLike 0 = .ok (.aload_n 0, 1) := by decide +kernel
theorem dX10_isLike_1 : decode cX10_isLike 1 = .ok (.getfield 31, 3) := by decide +kernel
theorem dX10_isLike_4 : decode cX10_isLike 4 = .ok (.iload_n 3, 1) := by decide +kernel
theorem dX10_isLike_5 : decode cX10_isLike 5 = .ok (.iaload, 1) := by decide +kernel
theorem dX10_isLike_6 : decode cX10_isLike 6 = .ok (.iload_n 2, 1) := by decide +kernel
theorem dX10_isLike_7 : decode cX10_isLike 7 = .ok (.if_icmp .ne 7, 3) := by decide +kernel
theorem dX10_isLike_10 : decode cX10_isLike 10 = .ok (.iconst 1, 1) := by decide +kernel
theorem dX10_isLike_11 : decode cX10_isLike 11 = .ok (.goto 4, 3) := by decide +kernel
theorem dX10_isLike_14 : decode cX10_isLike 14 = .ok (.iconst 0, 1) := by decide +kernel
theorem dX10_isLike_15 : decode cX10_isLike 15 = .ok (.istore 4, 2) := by decide +kernel
theorem dX10_isLike_17 : decode cX10_isLike 17 = .ok (.iconst 0, 1) := by decide +kernel
theorem dX10_isLike_18 : decode cX10_isLike 18 = .ok (.istore 5, 2) := by decide +kernel
theorem dX10_isLike_20 : decode cX10_isLike 20 = .ok (.iload 5, 2) := by decide +kernel
theorem dX10_isLike_22 : decode cX10_isLike 22 = .ok (.iload_n 2, 1) := by decide +kernel
theorem dX10_isLike_23 : decode cX10_isLike 23 = .ok (.if_icmp .ge 52, 3) := by decide +kernel
theorem dX10_isLike_26 : decode cX10_isLike 26 = .ok (.iload 4, 2) := by decide +kernel
theorem dX10_isLike_28 : decode cX10_isLike 28 = .ok (.ifCond .eq 47, 3) := by decide +kernel
theorem dX10_isLike_31 : decode cX10_isLike 31 = .ok (.aload_n 0, 1) := by decide +kernel
theorem dX10_isLike_32 : decode cX10_isLike 32 = .ok (.getfield 7, 3) := by decide +kernel
theorem dX10_isLike_35 : decode cX10_isLike 35 = .ok (.aload_n 0, 1) := by decide +kernel
theorem dX10_isLike_36 : decode cX10_isLike 36 = .ok (.getfield 16, 3) := by decide +kernel
theorem dX10_isLike_39 : decode cX10_isLike 39 = .ok (.iload_n 1, 1) := by decide +kernel
theorem dX10_isLike_40 : decode cX10_isLike 40 = .ok (.iaload, 1) := by decide +kernel
theorem dX10_isLike_41 : decode cX10_isLike 41 = .ok (.iload 5, 2) := by decide +kernel
theorem dX10_isLike_43 : decode cX10_isLike 43 = .ok (.iadd, 1) := by decide +kernel
theorem dX10_isLike_44 : decode cX10_isLike 44 = .ok (.iaload, 1) := by decide +kernel
theorem dX10_isLike_45 : decode cX10_isLike 45 = .ok (.aload_n 0, 1) := by decide +kernel
theorem dX10_isLike_46 : decode cX10_isLike 46 = .ok (.getfield 7, 3) := by decide +kernel
theorem dX10_isLike_49 : decode cX10_isLike 49 = .ok (.aload_n 0, 1) := by decide +kernel
theorem dX10_isLike_50 : decode cX10_isLike 50 = .ok (.getfield 28, 3) := by decide +kernel
theorem dX10_isLike_53 : decode cX10_isLike 53 = .ok (.iload_n 3, 1) := by decide +kernel
theorem dX10_isLike_54 : decode cX10_isLike 54 = .ok (.iaload, 1) := by decide +kernel
theorem dX10_isLike_55 : decode cX10_isLike 55 = .ok (.iload 5, 2) := by decide +kernel
theorem dX10_isLike_57 : decode cX10_isLike 57 = .ok (.iadd, 1) := by decide +kernel
theorem dX10_isLike_58 : decode cX10_isLike 58 = .ok (.iaload, 1) := by decide +kernel
theorem dX10_isLike_59 : decode cX10_isLike 59 = .ok (.if_icmp .ne 7, 3) := by decide +kernel
theorem dX10_isLike_62 : decode cX10_isLike 62 = .ok (.iconst 1, 1) := by decide +kernel
theorem dX10_isLike_63 : decode cX10_isLike 63 = .ok (.goto 4, 3) := by decide +kernel
theorem dX10_isLike_66 : decode cX10_isLike 66 = .ok (.iconst 0, 1) := by decide +kernel
theorem dX10_isLike_67 : decode cX10_isLike 67 = .ok (.istore 4, 2) := by decide +kernel
theorem dX10_isLike_69 : decode cX10_isLike 69 = .ok (.iinc 5 1, 3) := by decide +kernel
theorem dX10_isLike_72 : decode cX10_isLike 72 = .ok (.goto (-52), 3) := by decide +kernel
theorem dX10_isLike_75 : decode cX10_isLike 75 = .ok (.iload 4, 2) := by decide +kernel
theorem dX10_isLike_77 : decode cX10_isLike 77 = .ok (.ireturn, 1) := by decide +kernel
theorem dX10_reads_0 : decode cX10_reads 0 = .ok (.aload_n 0, 1) := by decide +kernel
theorem dX10_reads_1 : decode cX10_reads 1 = .ok (.invokevirtual 132, 3) := by decide +kernel
theorem dX10_reads_4 : decode cX10_reads 4 = .ok (.aload_n 0, 1) := by decide +kernel
theorem dX10_reads_5 : decode cX10_reads 5 = .ok (.getfield 103, 3) := by decide +kernel
theorem dX10_reads_8 : decode cX10_reads 8 = .ok (.iconst (-1), 1) := by decide +kernel
theorem dX10_reads_9 : decode cX10_reads 9 = .ok (.if_icmp .eq 13, 3) := by decide +kernel
theorem dX10_reads_12 : decode cX10_reads 12 = .ok (.aload_n 0, 1) := by decide +kernel
theorem dX10_reads_13 : decode cX10_reads 13 = .ok (.iconst 0, 1) := by decide +kernel
theorem dX10_reads_14 : decode cX10_reads 14 = .ok (.putfield 109, 3) := by decide +kernel
theorem dX10_reads_17 : decode cX10_reads 17 = .ok (.aload_n 0, 1) := by decide +kernel
theorem dX10_reads_18 : decode cX10_reads 18 = .ok (.iconst 0, 1) := by decide +kernel
theorem dX10_reads_19 : decode cX10_reads 19 = .ok (.putfield 115, 3) := by decide +kernel
theorem dX10_reads_22 : decode cX10_reads 22 = .ok (.aload_n 0, 1) := by decide +kernel
theorem dX10_reads_23 : decode cX10_reads 23 = .ok (.iconst 0, 1) := by decide +kernel
theorem dX10_reads_24 : decode cX10_reads 24 = .ok (.putfield 135, 3) := by decide +kernel
theorem dX10_reads_27 : decode cX10_reads 27 = .ok (.iconst 0, 1) := by decide +kernel
theorem dX10_reads_28 : decode cX10_reads 28 = .ok (.istore_n 1, 1) := by decide +kernel
theorem dX10_reads_29 : decode cX10_reads 29 = .ok (.iload_n 1, 1) := by decide +kernel
theorem dX10_reads_30 : decode cX10_reads 30 = .ok (.sipush 1320, 3) := by decide +kernel
theorem dX10_reads_33 : decode cX10_reads 33 = .ok (.if_icmp .ge 16, 3) := by decide +kernel
theorem dX10_reads_36 : decode cX10_reads 36 = .ok (.aload_n 0, 1) := by decide +kernel
theorem dX10_reads_37 : decode cX10_reads 37 = .ok (.getfield 37, 3) := by decide +kernel
theorem dX10_reads_40 : decode cX10_reads 40 = .ok (.iload_n 1, 1) := by decide +kernel
theorem dX10_reads_41 : decode cX10_reads 41 = .ok (.iconst 0, 1) := by decide +kernel
theorem dX10_reads_42 : decode cX10_reads 42 = .ok (.iastore, 1) := by decide +kernel
theorem dX10_reads_43 : decode cX10_reads 43 = .ok (.iinc 1 1, 3) := by decide +kernel
theorem dX10_reads_46 : decode cX10_reads 46 = .ok (.goto (-17), 3) := by decide +kernel
theorem dX10_reads_49 : decode cX10_reads 49 = .ok (.iconst 0, 1) := by decide +kernel
theorem dX10_reads_50 : decode cX10_reads 50 = .ok (.istore_n 1, 1) := by decide +kernel
theorem dX10_reads_51 : decode cX10_reads 51 = .ok (.iload_n 1, 1) := by decide +kernel
theorem dX10_reads_52 : decode cX10_reads 52 = .ok (.aload_n 0, 1) := by decide +kernel
theorem dX10_reads_53 : decode cX10_reads 53 = .ok (.getfield 115, 3) := by decide +kernel
theorem dX10_reads_56 : decode cX10_reads 56 = .ok (.if_icmp .ge 111, 3) := by decide +kernel
theorem dX10_reads_59 : decode cX10_reads 59 = .ok (.aload_n 0, 1) := by decide +kernel
theorem dX10_reads_60 : decode cX10_reads 60 = .ok (.iload_n 1, 1) := by decide +kernel
theorem dX10_reads_61 : decode cX10_reads 61 = .ok (.invokevirtual 138, 3) := by decide +kernel
theorem dX10_reads_64 : decode cX10_reads 64 = .ok (.istore_n 2, 1) := by decide +kernel
theorem dX10_reads_65 : decode cX10_reads 65 = .ok (.iconst 0, 1) := by decide +kernel
theorem dX10_reads_66 : decode cX10_reads 66 = .ok (.istore_n 3, 1) := by decide +kernel
theorem dX10_reads_67 : decode cX10_reads 67 = .ok (.iload_n 3, 1) := by decide +kernel
theorem dX10_reads_68 : decode cX10_reads 68 = .ok (.aload_n 0, 1) := by decide +kernel
theorem dX10_reads_69 : decode cX10_reads 69 = .ok (.getfield 135, 3) := by decide +kernel
theorem dX10_reads_72 : decode cX10_reads 72 = .ok (.if_icmp .ge 19, 3) := by decide +kernel
theorem dX10_reads_75 : decode cX10_reads 75 = .ok (.aload_n 0, 1) := by decide +kernel
theorem dX10_reads_76 : decode cX10_reads 76 = .ok (.iload_n 1, 1) := by decide +kernel
theorem dX10_reads_77 : decode cX10_reads 77 = .ok (.iload_n 2, 1) := by decide +kernel
theorem dX10_reads_78 : decode cX10_reads 78 = .ok (.iload_n 3, 1) := by decide +kernel
theorem dX10_reads_79 : decode cX10_reads 79 = .ok (.invokevirtual 141, 3) := by decide +kernel
theorem dX10_reads_82 : decode cX10_reads 82 = .ok (.ifCond .ne 9, 3) := by decide +kernel
theorem dX10_reads_85 : decode cX10_reads 85 = .ok (.iinc 3 1, 3) := by decide +kernel
theorem dX10_reads_88 : decode cX10_reads 88 = .ok (.goto (-21), 3) := by decide +kernel
theorem dX10_reads_91 : decode cX10_reads 91 = .ok (.iload_n 3, 1) := by decide +kernel
theorem dX10_reads_92 : decode cX10_reads 92 = .ok (.aload_n 0, 1) := by decide +kernel
theorem dX10_reads_93 : decode cX10_reads 93 = .ok (.getfield 135, 3) := by decide +kernel
theorem dX10_reads_96 : decode cX10_reads 96 = .ok (.if_icmp .ne 38, 3) := by decide +kernel
theorem dX10_reads_99 : decode cX10_reads 99 = .ok (.aload_n 0, 1) := by decide +kernel
theorem dX10_reads_100 : decode cX10_reads 100 = .ok (.getfield 28, 3) := by decide +kernel
theorem dX10_reads_103 : decode cX10_reads 103 = .ok (.aload_n 0, 1) := by decide +kernel
theorem dX10_reads_104 : decode cX10_reads 104 = .ok (.getfield 135, 3) := by decide +kernel
theorem dX10_reads_107 : decode cX10_reads 107 = .ok (.aload_n 0, 1) := by decide +kernel
theorem dX10_reads_108 : decode cX10_reads 108 = .ok (.getfield 16, 3) := by decide +kernel
theorem dX10_reads_111 : decode cX10_reads 111 = .ok (.iload_n 1, 1) := by decide +kernel
theorem dX10_reads_112 : decode cX10_reads 112 = .ok (.iaload, 1) := by decide +kernel
theorem dX10_reads_113 : decode cX10_reads 113 = .ok (.iastore, 1) := by decide +kernel
theorem dX10_reads_114 : decode cX10_reads 114 = .ok (.aload_n 0, 1) := by decide +kernel
theorem dX10_reads_115 : decode cX10_reads 115 = .ok (.getfield 31, 3) := by decide +kernel
theorem dX10_reads_118 : decode cX10_reads 118 = .ok (.aload_n 0, 1) := by decide +kernel
theorem dX10_reads_119 : decode cX10_reads 119 = .ok (.getfield 135, 3) := by decide +kernel
theorem dX10_reads_122 : decode cX10_reads 122 = .ok (.iload_n 2, 1) := by decide +kernel
theorem dX10_reads_123 : decode cX10_reads 123 = .ok (.iastore, 1) := by decide +kernel
theorem dX10_reads_124 : decode cX10_reads 124 = .ok (.aload_n 0, 1) := by decide +kernel
theorem dX10_reads_125 : decode cX10_reads 125 = .ok (.dup, 1) := by decide +kernel
theorem dX10_reads_126 : decode cX10_reads 126 = .ok (.getfield 135, 3) := by decide +kernel
theorem dX10_reads_129 : decode cX10_reads 129 = .ok (.iconst 1, 1) := by decide +kernel
theorem dX10_reads_130 : decode cX10_reads 130 = .ok (.iadd, 1) := by decide +kernel
theorem dX10_reads_131 : decode cX10_reads 131 = .ok (.putfield 135, 3) := by decide +kernel
theorem dX10_reads_134 : decode cX10_reads 134 = .ok (.aload_n 0, 1) := by decide +kernel
theorem dX10_reads_135 : decode cX10_reads 135 = .ok (.getfield 25, 3) := by decide +kernel
theorem dX10_reads_138 : decode cX10_reads 138 = .ok (.iload_n 1, 1) := by decide +kernel
theorem dX10_reads_139 : decode cX10_reads 139 = .ok (.iload_n 3, 1) := by decide +kernel
theorem dX10_reads_140 : decode cX10_reads 140 = .ok (.iastore, 1) := by decide +kernel
theorem dX10_reads_141 : decode cX10_reads 141 = .ok (.aload_n 0, 1) := by decide +kernel
theorem dX10_reads_142 : decode cX10_reads 142 = .ok (.getfield 37, 3) := by decide +kernel
theorem dX10_reads_145 : decode cX10_reads 145 = .ok (.bipush 110, 2) := by decide +kernel
theorem dX10_reads_147 : decode cX10_reads 147 = .ok (.aload_n 0, 1) := by decide +kernel
theorem dX10_reads_148 : decode cX10_reads 148 = .ok (.getfield 22, 3) := by decide +kernel
theorem dX10_reads_151 : decode cX10_reads 151 = .ok (.iload_n 1, 1) := by decide +kernel
theorem dX10_reads_152 : decode cX10_reads 152 = .ok (.iaload, 1) := by decide +kernel
theorem dX10_reads_153 : decode cX10_reads 153 = .ok (.imul, 1) := by decide +kernel
theorem dX10_reads_154 : decode cX10_reads 154 = .ok (.iload_n 3, 1) := by decide +kernel
theorem dX10_reads_155 : decode cX10_reads 155 = .ok (.iadd, 1) := by decide +kernel
theorem dX10_reads_156 : decode cX10_reads 156 = .ok (.dup2, 1) := by decide +kernel
theorem dX10_reads_157 : decode cX10_reads 157 = .ok (.iaload, 1) := by decide +kernel
theorem dX10_reads_158 : decode cX10_reads 158 = .ok (.iconst 1, 1) := by decide +kernel
theorem dX10_reads_159 : decode cX10_reads 159 = .ok (.iadd, 1) := by decide +kernel
theorem dX10_reads_160 : decode cX10_reads 160 = .ok (.iastore, 1) := by decide +kernel
theorem dX10_reads_161 : decode cX10_reads 161 = .ok (.iinc 1 1, 3) := by decide +kernel
theorem dX10_reads_164 : decode cX10_reads 164 = .ok (.goto (-113), 3) := by decide +kernel
theorem dX10_reads_167 : decode cX10_reads 167 = .ok (.aload_n 0, 1) := by decide +kernel
theorem dX10_reads_168 : decode cX10_reads 168 = .ok (.getfield 34, 3) := by decide +kernel
theorem dX10_reads_171 : decode cX10_reads 171 = .ok (.aload_n 0, 1) := by decide +kernel
theorem dX10_reads_172 : decode cX10_reads 172 = .ok (.getfield 109, 3) := by decide +kernel
theorem dX10_reads_175 : decode cX10_reads 175 = .ok (.aload_n 0, 1) := by decide +kernel
theorem dX10_reads_176 : decode cX10_reads 176 = .ok (.getfield 115, 3) := by decide +kernel
theorem dX10_reads_179 : decode cX10_reads 179 = .ok (.iastore, 1) := by decide +kernel
theorem dX10_reads_180 : decode cX10_reads 180 = .ok (.aload_n 0, 1) := by decide +kernel
theorem dX10_reads_181 : decode cX10_reads 181 = .ok (.iconst (-1), 1) := by decide +kernel
theorem dX10_reads_182 : decode cX10_reads 182 = .ok (.putfield 144, 3) := by decide +kernel
theorem dX10_reads_185 : decode cX10_reads 185 = .ok (.return_, 1) := by decide +kernel
theorem dX10_faultOf_0 : decode cX10_faultOf 0 = .ok (.aload_n 0, 1) := by decide +kernel
theorem dX10_faultOf_1 : decode cX10_faultOf 1 = .ok (.invokevirtual 147, 3) := by decide +kernel
theorem dX10_faultOf_4 : decode cX10_faultOf 4 = .ok (.iload_n 1, 1) := by decide +kernel
theorem dX10_faultOf_5 : decode cX10_faultOf 5 = .ok (.ifCond .ne 10, 3) := by decide +kernel
theorem dX10_faultOf_8 : decode cX10_faultOf 8 = .ok (.aload_n 0, 1) := by decide +kernel
theorem dX10_faultOf_9 : decode cX10_faultOf 9 = .ok (.getfield 103, 3) := by decide +kernel
theorem dX10_faultOf_12 : decode cX10_faultOf 12 = .ok (.goto 19, 3) := by decide +kernel
theorem dX10_faultOf_15 : decode cX10_faultOf 15 = .ok (.iload_n 1, 1) := by decide +kernel
theorem dX10_faultOf_16 : decode cX10_faultOf 16 = .ok (.iconst 1, 1) := by decide +kernel
theorem dX10_faultOf_17 : decode cX10_faultOf 17 = .ok (.if_icmp .ne 10, 3) := by decide +kernel
theorem dX10_faultOf_20 : decode cX10_faultOf 20 = .ok (.aload_n 0, 1) := by decide +kernel
theorem dX10_faultOf_21 : decode cX10_faultOf 21 = .ok (.getfield 106, 3) := by decide +kernel
theorem dX10_faultOf_24 : decode cX10_faultOf 24 = .ok (.goto 7, 3) := by decide +kernel
theorem dX10_faultOf_27 : decode cX10_faultOf 27 = .ok (.aload_n 0, 1) := by decide +kernel
theorem dX10_faultOf_28 : decode cX10_faultOf 28 = .ok (.getfield 112, 3) := by decide +kernel
theorem dX10_faultOf_31 : decode cX10_faultOf 31 = .ok (.ireturn, 1) := by decide +kernel
theorem dX10_fault_0 : decode cX10_fault 0 = .ok (.iload_n 1, 1) := by decide +kernel
theorem dX10_fault_1 : decode cX10_fault 1 = .ok (.iconst 0, 1) := by decide +kernel
theorem dX10_fault_2 : decode cX10_fault 2 = .ok (.iconst 2, 1) := by decide +kernel
theorem dX10_fault_3 : decode cX10_fault 3 = .ok (.invokestatic 77, 3) := by decide +kernel
theorem dX10_fault_6 : decode cX10_fault 6 = .ok (.ifCond .eq 11, 3) := by decide +kernel
theorem dX10_fault_9 : decode cX10_fault 9 = .ok (.aload_n 0, 1) := by decide +kernel
theorem dX10_fault_10 : decode cX10_fault 10 = .ok (.iload_n 1, 1) := by decide +kernel
theorem dX10_fault_11 : decode cX10_fault 11 = .ok (.invokevirtual 150, 3) := by decide +kernel
theorem dX10_fault_14 : decode cX10_fault 14 = .ok (.goto 5, 3) := by decide +kernel
theorem dX10_fault_17 : decode cX10_fault 17 = .ok (.bipush (-2), 2) := by decide +kernel
theorem dX10_fault_19 : decode cX10_fault 19 = .ok (.ireturn, 1) := by decide +kernel
theorem dX10_isSentence_0 : decode cX10_isSentence 0 = .ok (.aload_n 0, 1) := by decide +kernel
theorem dX10_isSentence_1 : decode cX10_isSentence 1 = .ok (.invokevirtual 147, 3) := by decide +kernel
theorem dX10_isSentence_4 : decode cX10_isSentence 4 = .ok (.iload_n 1, 1) := by decide +kernel
theorem dX10_isSentence_5 : decode cX10_isSentence 5 = .ok (.iconst 0, 1) := by decide +kernel
theorem dX10_isSentence_6 : decode cX10_isSentence 6 = .ok (.aload_n 0, 1) := by decide +kernel
theorem dX10_isSentence_7 : decode cX10_isSentence 7 = .ok (.getfield 109, 3) := by decide +kernel
theorem dX10_isSentence_10 : decode cX10_isSentence 10 = .ok (.iconst 1, 1) := by decide +kernel
theorem dX10_isSentence_11 : decode cX10_isSentence 11 = .ok (.isub, 1) := by decide +kernel
theorem dX10_isSentence_12 : decode cX10_isSentence 12 = .ok (.invokestatic 77, 3) := by decide +kernel
theorem dX10_isSentence_15 : decode cX10_isSentence 15 = .ok (.ireturn, 1) := by decide +kernel
theorem dX10_looksOver_0 : decode cX10_looksOver 0 = .ok (.aload_n 0, 1) := by decide +kernel
theorem dX10_looksOver_1 : decode cX10_looksOver 1 = .ok (.iconst 0, 1) := by decide +kernel
theorem dX10_looksOver_2 : decode cX10_looksOver 2 = .ok (.putfield 153, 3) := by decide +kernel
theorem dX10_looksOver_5 : decode cX10_looksOver 5 = .ok (.aload_n 0, 1) := by decide +kernel
theorem dX10_looksOver_6 : decode cX10_looksOver 6 = .ok (.iconst 0, 1) := by decide +kernel
theorem dX10_looksOver_7 : decode cX10_looksOver 7 = .ok (.putfield 156, 3) := by decide +kernel
theorem dX10_looksOver_10 : decode cX10_looksOver 10 = .ok (.aload_n 0, 1) := by decide +kernel
theorem dX10_looksOver_11 : decode cX10_looksOver 11 = .ok (.iconst 0, 1) := by decide +kernel
theorem dX10_looksOver_12 : decode cX10_looksOver 12 = .ok (.putfield 159, 3) := by decide +kernel
theorem dX10_looksOver_15 : decode cX10_looksOver 15 = .ok (.iconst 0, 1) := by decide +kernel
theorem dX10_looksOver_16 : decode cX10_looksOver 16 = .ok (.istore_n 3, 1) := by decide +kernel
theorem dX10_looksOver_17 : decode cX10_looksOver 17 = .ok (.iload_n 3, 1) := by decide +kernel
theorem dX10_looksOver_18 : decode cX10_looksOver 18 = .ok (.aload_n 0, 1) := by decide +kernel
theorem dX10_looksOver_19 : decode cX10_looksOver 19 = .ok (.getfield 135, 3) := by decide +kernel
theorem dX10_looksOver_22 : decode cX10_looksOver 22 = .ok (.if_icmp .ge 107, 3) := by decide +kernel
theorem dX10_looksOver_25 : decode cX10_looksOver 25 = .ok (.iconst 0, 1) := by decide +kernel
theorem dX10_looksOver_26 : decode cX10_looksOver 26 = .ok (.istore 4, 2) := by decide +kernel
theorem dX10_looksOver_28 : decode cX10_looksOver 28 = .ok (.iload_n 1, 1) := by decide +kernel
theorem dX10_looksOver_29 : decode cX10_looksOver 29 = .ok (.istore 5, 2) := by decide +kernel
theorem dX10_looksOver_31 : decode cX10_looksOver 31 = .ok (.iload 5, 2) := by decide +kernel
theorem dX10_looksOver_33 : decode cX10_looksOver 33 = .ok (.iload_n 2, 1) := by decide +kernel
theorem dX10_looksOver_34 : decode cX10_looksOver 34 = .ok (.if_icmp .ge 39, 3) := by decide +kernel
theorem dX10_looksOver_37 : decode cX10_looksOver 37 = .ok (.iload 4, 2) := by decide +kernel
theorem dX10_looksOver_39 : decode cX10_looksOver 39 = .ok (.iload 5, 2) := by decide +kernel
theorem dX10_looksOver_41 : decode cX10_looksOver 41 = .ok (.aload_n 0, 1) := by decide +kernel
theorem dX10_looksOver_42 : decode cX10_looksOver 42 = .ok (.getfield 144, 3) := by decide +kernel
theorem dX10_looksOver_45 : decode cX10_looksOver 45 = .ok (.if_icmp .ne 7, 3) := by decide +kernel
theorem dX10_looksOver_48 : decode cX10_looksOver 48 = .ok (.iconst 0, 1) := by decide +kernel
theorem dX10_looksOver_49 : decode cX10_looksOver 49 = .ok (.goto 15, 3) := by decide +kernel
theorem dX10_looksOver_52 : decode cX10_looksOver 52 = .ok (.aload_n 0, 1) := by decide +kernel
theorem dX10_looksOver_53 : decode cX10_looksOver 53 = .ok (.getfield 37, 3) := by decide +kernel
theorem dX10_looksOver_56 : decode cX10_looksOver 56 = .ok (.bipush 110, 2) := by decide +kernel
theorem dX10_looksOver_58 : decode cX10_looksOver 58 = .ok (.iload 5, 2) := by decide +kernel
theorem dX10_looksOver_60 : decode cX10_looksOver 60 = .ok (.imul, 1) := by decide +kernel
theorem dX10_looksOver_61 : decode cX10_looksOver 61 = .ok (.iload_n 3, 1) := by decide +kernel
theorem dX10_looksOver_62 : decode cX10_looksOver 62 = .ok (.iadd, 1) := by decide +kernel
theorem dX10_looksOver_63 : decode cX10_looksOver 63 = .ok (.iaload, 1) := by decide +kernel
theorem dX10_looksOver_64 : decode cX10_looksOver 64 = .ok (.iadd, 1) := by decide +kernel
theorem dX10_looksOver_65 : decode cX10_looksOver 65 = .ok (.istore 4, 2) := by decide +kernel
theorem dX10_looksOver_67 : decode cX10_looksOver 67 = .ok (.iinc 5 1, 3) := by decide +kernel
theorem dX10_looksOver_70 : decode cX10_looksOver 70 = .ok (.goto (-39), 3) := by decide +kernel
theorem dX10_looksOver_73 : decode cX10_looksOver 73 = .ok (.aload_n 0, 1) := by decide +kernel
theorem dX10_looksOver_74 : decode cX10_looksOver 74 = .ok (.dup, 1) := by decide +kernel
theorem dX10_looksOver_75 : decode cX10_looksOver 75 = .ok (.getfield 153, 3) := by decide +kernel
theorem dX10_looksOver_78 : decode cX10_looksOver 78 = .ok (.iload 4, 2) := by decide +kernel
theorem dX10_looksOver_80 : decode cX10_looksOver 80 = .ok (.iadd, 1) := by decide +kernel
theorem dX10_looksOver_81 : decode cX10_looksOver 81 = .ok (.putfield 153, 3) := by decide +kernel
theorem dX10_looksOver_84 : decode cX10_looksOver 84 = .ok (.aload_n 0, 1) := by decide +kernel
theorem dX10_looksOver_85 : decode cX10_looksOver 85 = .ok (.dup, 1) := by decide +kernel
theorem dX10_looksOver_86 : decode cX10_looksOver 86 = .ok (.getfield 156, 3) := by decide +kernel
theorem dX10_looksOver_89 : decode cX10_looksOver 89 = .ok (.iload 4, 2) := by decide +kernel
theorem dX10_looksOver_91 : decode cX10_looksOver 91 = .ok (.ifCond .le 7, 3) := by decide +kernel
theorem dX10_looksOver_94 : decode cX10_looksOver 94 = .ok (.iconst 1, 1) := by decide +kernel
theorem dX10_looksOver_95 : decode cX10_looksOver 95 = .ok (.goto 4, 3) := by decide +kernel
theorem dX10_looksOver_98 : decode cX10_looksOver 98 = .ok (.iconst 0, 1) := by decide +kernel
theorem dX10_looksOver_99 : decode cX10_looksOver 99 = .ok (.iadd, 1) := by decide +kernel
theorem dX10_looksOver_100 : decode cX10_looksOver 100 = .ok (.putfield 156, 3) := by decide +kernel
theorem dX10_looksOver_103 : decode cX10_looksOver 103 = .ok (.aload_n 0, 1) := by decide +kernel
theorem dX10_looksOver_104 : decode cX10_looksOver 104 = .ok (.dup, 1) := by decide +kernel
theorem dX10_looksOver_105 : decode cX10_looksOver 105 = .ok (.getfield 159, 3) := by decide +kernel
theorem dX10_looksOver_108 : decode cX10_looksOver 108 = .ok (.iload 4, 2) := by decide +kernel
theorem dX10_looksOver_110 : decode cX10_looksOver 110 = .ok (.iconst 1, 1) := by decide +kernel
theorem dX10_looksOver_111 : decode cX10_looksOver 111 = .ok (.if_icmp .ne 7, 3) := by decide +kernel
theorem dX10_looksOver_114 : decode cX10_looksOver 114 = .ok (.iconst 1, 1) := by decide +kernel
theorem dX10_looksOver_115 : decode cX10_looksOver 115 = .ok (.goto 4, 3) := by decide +kernel
theorem dX10_looksOver_118 : decode cX10_looksOver 118 = .ok (.iconst 0, 1) := by decide +kernel
theorem dX10_looksOver_119 : decode cX10_looksOver 119 = .ok (.iadd, 1) := by decide +kernel
theorem dX10_looksOver_120 : decode cX10_looksOver 120 = .ok (.putfield 159, 3) := by decide +kernel
theorem dX10_looksOver_123 : decode cX10_looksOver 123 = .ok (.iinc 3 1, 3) := by decide +kernel
theorem dX10_looksOver_126 : decode cX10_looksOver 126 = .ok (.goto (-109), 3) := by decide +kernel
theorem dX10_looksOver_129 : decode cX10_looksOver 129 = .ok (.return_, 1) := by decide +kernel
theorem dX10_sentenceOf_0 : decode cX10_sentenceOf 0 = .ok (.aload_n 0, 1) := by decide +kernel
theorem dX10_sentenceOf_1 : decode cX10_sentenceOf 1 = .ok (.iload_n 1, 1) := by decide +kernel
theorem dX10_sentenceOf_2 : decode cX10_sentenceOf 2 = .ok (.iload_n 1, 1) := by decide +kernel
theorem dX10_sentenceOf_3 : decode cX10_sentenceOf 3 = .ok (.iconst 1, 1) := by decide +kernel
theorem dX10_sentenceOf_4 : decode cX10_sentenceOf 4 = .ok (.iadd, 1) := by decide +kernel
theorem dX10_sentenceOf_5 : decode cX10_sentenceOf 5 = .ok (.invokevirtual 162, 3) := by decide +kernel
theorem dX10_sentenceOf_8 : decode cX10_sentenceOf 8 = .ok (.iload_n 2, 1) := by decide +kernel
theorem dX10_sentenceOf_9 : decode cX10_sentenceOf 9 = .ok (.ifCond .ne 10, 3) := by decide +kernel
theorem dX10_sentenceOf_12 : decode cX10_sentenceOf 12 = .ok (.aload_n 0, 1) := by decide +kernel
theorem dX10_sentenceOf_13 : decode cX10_sentenceOf 13 = .ok (.getfield 153, 3) := by decide +kernel
theorem dX10_sentenceOf_16 : decode cX10_sentenceOf 16 = .ok (.goto 38, 3) := by decide +kernel
theorem dX10_sentenceOf_19 : decode cX10_sentenceOf 19 = .ok (.iload_n 2, 1) := by decide +kernel
theorem dX10_sentenceOf_20 : decode cX10_sentenceOf 20 = .ok (.iconst 1, 1) := by decide +kernel
theorem dX10_sentenceOf_21 : decode cX10_sentenceOf 21 = .ok (.if_icmp .ne 10, 3) := by decide +kernel
theorem dX10_sentenceOf_24 : decode cX10_sentenceOf 24 = .ok (.aload_n 0, 1) := by decide +kernel
theorem dX10_sentenceOf_25 : decode cX10_sentenceOf 25 = .ok (.getfield 156, 3) := by decide +kernel
theorem dX10_sentenceOf_28 : decode cX10_sentenceOf 28 = .ok (.goto 26, 3) := by decide +kernel
theorem dX10_sentenceOf_31 : decode cX10_sentenceOf 31 = .ok (.iload_n 2, 1) := by decide +kernel
theorem dX10_sentenceOf_32 : decode cX10_sentenceOf 32 = .ok (.iconst 2, 1) := by decide +kernel
theorem dX10_sentenceOf_33 : decode cX10_sentenceOf 33 = .ok (.if_icmp .ne 10, 3) := by decide +kernel
theorem dX10_sentenceOf_36 : decode cX10_sentenceOf 36 = .ok (.aload_n 0, 1) := by decide +kernel
theorem dX10_sentenceOf_37 : decode cX10_sentenceOf 37 = .ok (.getfield 159, 3) := by decide +kernel
theorem dX10_sentenceOf_40 : decode cX10_sentenceOf 40 = .ok (.goto 14, 3) := by decide +kernel
theorem dX10_sentenceOf_43 : decode cX10_sentenceOf 43 = .ok (.aload_n 0, 1) := by decide +kernel
theorem dX10_sentenceOf_44 : decode cX10_sentenceOf 44 = .ok (.getfield 16, 3) := by decide +kernel
theorem dX10_sentenceOf_47 : decode cX10_sentenceOf 47 = .ok (.aload_n 0, 1) := by decide +kernel
theorem dX10_sentenceOf_48 : decode cX10_sentenceOf 48 = .ok (.getfield 34, 3) := by decide +kernel
theorem dX10_sentenceOf_51 : decode cX10_sentenceOf 51 = .ok (.iload_n 1, 1) := by decide +kernel
theorem dX10_sentenceOf_52 : decode cX10_sentenceOf 52 = .ok (.iaload, 1) := by decide +kernel
theorem dX10_sentenceOf_53 : decode cX10_sentenceOf 53 = .ok (.iaload, 1) := by decide +kernel
theorem dX10_sentenceOf_54 : decode cX10_sentenceOf 54 = .ok (.ireturn, 1) := by decide +kernel
theorem dX10_sentence_0 : decode cX10_sentence 0 = .ok (.aload_n 0, 1) := by decide +kernel
theorem dX10_sentence_1 : decode cX10_sentence 1 = .ok (.iload_n 1, 1) := by decide +kernel
theorem dX10_sentence_2 : decode cX10_sentence 2 = .ok (.invokevirtual 165, 3) := by decide +kernel
theorem dX10_sentence_5 : decode cX10_sentence 5 = .ok (.ifCond .eq 21, 3) := by decide +kernel
theorem dX10_sentence_8 : decode cX10_sentence 8 = .ok (.iload_n 2, 1) := by decide +kernel
theorem dX10_sentence_9 : decode cX10_sentence 9 = .ok (.iconst 0, 1) := by decide +kernel
theorem dX10_sentence_10 : decode cX10_sentence 10 = .ok (.iconst 3, 1) := by decide +kernel
theorem dX10_sentence_11 : decode cX10_sentence 11 = .ok (.invokestatic 77, 3) := by decide +kernel
theorem dX10_sentence_14 : decode cX10_sentence 14 = .ok (.ifCond .eq 12, 3) := by decide +kernel
theorem dX10_sentence_17 : decode cX10_sentence 17 = .ok (.aload_n 0, 1) := by decide +kernel
theorem dX10_sentence_18 : decode cX10_sentence 18 = .ok (.iload_n 1, 1) := by decide +kernel
theorem dX10_sentence_19 : decode cX10_sentence 19 = .ok (.iload_n 2, 1) := by decide +kernel
theorem dX10_sentence_20 : decode cX10_sentence 20 = .ok (.invokevirtual 168, 3) := by decide +kernel
theorem dX10_sentence_23 : decode cX10_sentence 23 = .ok (.goto 5, 3) := by decide +kernel
theorem dX10_sentence_26 : decode cX10_sentence 26 = .ok (.bipush (-2), 2) := by decide +kernel
theorem dX10_sentence_28 : decode cX10_sentence 28 = .ok (.ireturn, 1) := by decide +kernel
theorem dX10_wordOf_0 : decode cX10_wordOf 0 = .ok (.iload_n 2, 1) := by decide +kernel
theorem dX10_wordOf_1 : decode cX10_wordOf 1 = .ok (.iconst 0, 1) := by decide +kernel
theorem dX10_wordOf_2 : decode cX10_wordOf 2 = .ok (.aload_n 0, 1) := by decide +kernel
theorem dX10_wordOf_3 : decode cX10_wordOf 3 = .ok (.getfield 34, 3) := by decide +kernel
theorem dX10_wordOf_6 : decode cX10_wordOf 6 = .ok (.iload_n 1, 1) := by decide +kernel
theorem dX10_wordOf_7 : decode cX10_wordOf 7 = .ok (.iconst 1, 1) := by decide +kernel
theorem dX10_wordOf_8 : decode cX10_wordOf 8 = .ok (.iadd, 1) := by decide +kernel
theorem dX10_wordOf_9 : decode cX10_wordOf 9 = .ok (.iaload, 1) := by decide +kernel
theorem dX10_wordOf_10 : decode cX10_wordOf 10 = .ok (.aload_n 0, 1) := by decide +kernel
theorem dX10_wordOf_11 : decode cX10_wordOf 11 = .ok (.getfield 34, 3) := by decide +kernel
theorem dX10_wordOf_14 : decode cX10_wordOf 14 = .ok (.iload_n 1, 1) := by decide +kernel
theorem dX10_wordOf_15 : decode cX10_wordOf 15 = .ok (.iaload, 1) := by decide +kernel
theorem dX10_wordOf_16 : decode cX10_wordOf 16 = .ok (.isub, 1) := by decide +kernel
theorem dX10_wordOf_17 : decode cX10_wordOf 17 = .ok (.iconst 1, 1) := by decide +kernel
theorem dX10_wordOf_18 : decode cX10_wordOf 18 = .ok (.isub, 1) := by decide +kernel
theorem dX10_wordOf_19 : decode cX10_wordOf 19 = .ok (.invokestatic 77, 3) := by decide +kernel
theorem dX10_wordOf_22 : decode cX10_wordOf 22 = .ok (.ifCond .eq 19, 3) := by decide +kernel
theorem dX10_wordOf_25 : decode cX10_wordOf 25 = .ok (.aload_n 0, 1) := by decide +kernel
theorem dX10_wordOf_26 : decode cX10_wordOf 26 = .ok (.getfield 25, 3) := by decide +kernel
theorem dX10_wordOf_29 : decode cX10_wordOf 29 = .ok (.aload_n 0, 1) := by decide +kernel
theorem dX10_wordOf_30 : decode cX10_wordOf 30 = .ok (.getfield 34, 3) := by decide +kernel
theorem dX10_wordOf_33 : decode cX10_wordOf 33 = .ok (.iload_n 1, 1) := by decide +kernel
theorem dX10_wordOf_34 : decode cX10_wordOf 34 = .ok (.iaload, 1) := by decide +kernel
theorem dX10_wordOf_35 : decode cX10_wordOf 35 = .ok (.iload_n 2, 1) := by decide +kernel
theorem dX10_wordOf_36 : decode cX10_wordOf 36 = .ok (.iadd, 1) := by decide +kernel
theorem dX10_wordOf_37 : decode cX10_wordOf 37 = .ok (.iaload, 1) := by decide +kernel
theorem dX10_wordOf_38 : decode cX10_wordOf 38 = .ok (.goto 5, 3) := by decide +kernel
theorem dX10_wordOf_41 : decode cX10_wordOf 41 = .ok (.bipush (-2), 2) := by decide +kernel
theorem dX10_wordOf_43 : decode cX10_wordOf 43 = .ok (.ireturn, 1) := by decide +kernel
theorem dX10_word_0 : decode cX10_word 0 = .ok (.aload_n 0, 1) := by decide +kernel
theorem dX10_word_1 : decode cX10_word 1 = .ok (.iload_n 1, 1) := by decide +kernel
theorem dX10_word_2 : decode cX10_word 2 = .ok (.invokevirtual 165, 3) := by decide +kernel
theorem dX10_word_5 : decode cX10_word 5 = .ok (.ifCond .eq 12, 3) := by decide +kernel
theorem dX10_word_8 : decode cX10_word 8 = .ok (.aload_n 0, 1) := by decide +kernel
theorem dX10_word_9 : decode cX10_word 9 = .ok (.iload_n 1, 1) := by decide +kernel
theorem dX10_word_10 : decode cX10_word 10 = .ok (.iload_n 2, 1) := by decide +kernel
theorem dX10_word_11 : decode cX10_word 11 = .ok (.invokevirtual 172, 3) := by decide +kernel
theorem dX10_word_14 : decode cX10_word 14 = .ok (.goto 5, 3) := by decide +kernel
theorem dX10_word_17 : decode cX10_word 17 = .ok (.bipush (-2), 2) := by decide +kernel
theorem dX10_word_19 : decode cX10_word 19 = .ok (.ireturn, 1) := by decide +kernel
theorem dX10_isStem_0 : decode cX10_isStem 0 = .ok (.aload_n 0, 1) := by decide +kernel
theorem dX10_isStem_1 : decode cX10_isStem 1 = .ok (.invokevirtual 147, 3) := by decide +kernel
theorem dX10_isStem_4 : decode cX10_isStem 4 = .ok (.iload_n 1, 1) := by decide +kernel
theorem dX10_isStem_5 : decode cX10_isStem 5 = .ok (.iconst 0, 1) := by decide +kernel
theorem dX10_isStem_6 : decode cX10_isStem 6 = .ok (.aload_n 0, 1) := by decide +kernel
theorem dX10_isStem_7 : decode cX10_isStem 7 = .ok (.getfield 135, 3) := by decide +kernel
theorem dX10_isStem_10 : decode cX10_isStem 10 = .ok (.iconst 1, 1) := by decide +kernel
theorem dX10_isStem_11 : decode cX10_isStem 11 = .ok (.isub, 1) := by decide +kernel
theorem dX10_isStem_12 : decode cX10_isStem 12 = .ok (.invokestatic 77, 3) := by decide +kernel
theorem dX10_isStem_15 : decode cX10_isStem 15 = .ok (.ireturn, 1) := by decide +kernel
theorem dX10_stemOf_0 : decode cX10_stemOf 0 = .ok (.iconst 0, 1) := by decide +kernel
theorem dX10_stemOf_1 : decode cX10_stemOf 1 = .ok (.istore_n 3, 1) := by decide +kernel
theorem dX10_stemOf_2 : decode cX10_stemOf 2 = .ok (.iconst (-1), 1) := by decide +kernel
theorem dX10_stemOf_3 : decode cX10_stemOf 3 = .ok (.istore 4, 2) := by decide +kernel
theorem dX10_stemOf_5 : decode cX10_stemOf 5 = .ok (.iconst (-1), 1) := by decide +kernel
theorem dX10_stemOf_6 : decode cX10_stemOf 6 = .ok (.istore 5, 2) := by decide +kernel
theorem dX10_stemOf_8 : decode cX10_stemOf 8 = .ok (.iconst 0, 1) := by decide +kernel
theorem dX10_stemOf_9 : decode cX10_stemOf 9 = .ok (.istore 6, 2) := by decide +kernel
theorem dX10_stemOf_11 : decode cX10_stemOf 11 = .ok (.iload 6, 2) := by decide +kernel
theorem dX10_stemOf_13 : decode cX10_stemOf 13 = .ok (.aload_n 0, 1) := by decide +kernel
theorem dX10_stemOf_14 : decode cX10_stemOf 14 = .ok (.getfield 109, 3) := by decide +kernel
theorem dX10_stemOf_17 : decode cX10_stemOf 17 = .ok (.if_icmp .ge 62, 3) := by decide +kernel
theorem dX10_stemOf_20 : decode cX10_stemOf 20 = .ok (.aload_n 0, 1) := by decide +kernel
theorem dX10_stemOf_21 : decode cX10_stemOf 21 = .ok (.getfield 37, 3) := by decide +kernel
theorem dX10_stemOf_24 : decode cX10_stemOf 24 = .ok (.bipush 110, 2) := by decide +kernel
theorem dX10_stemOf_26 : decode cX10_stemOf 26 = .ok (.iload 6, 2) := by decide +kernel
theorem dX10_stemOf_28 : decode cX10_stemOf 28 = .ok (.imul, 1) := by decide +kernel
theorem dX10_stemOf_29 : decode cX10_stemOf 29 = .ok (.iload_n 1, 1) := by decide +kernel
theorem dX10_stemOf_30 : decode cX10_stemOf 30 = .ok (.iadd, 1) := by decide +kernel
theorem dX10_stemOf_31 : decode cX10_stemOf 31 = .ok (.iaload, 1) := by decide +kernel
theorem dX10_stemOf_32 : decode cX10_stemOf 32 = .ok (.istore 7, 2) := by decide +kernel
theorem dX10_stemOf_34 : decode cX10_stemOf 34 = .ok (.iload_n 3, 1) := by decide +kernel
theorem dX10_stemOf_35 : decode cX10_stemOf 35 = .ok (.iload 7, 2) := by decide +kernel
theorem dX10_stemOf_37 : decode cX10_stemOf 37 = .ok (.iadd, 1) := by decide +kernel
theorem dX10_stemOf_38 : decode cX10_stemOf 38 = .ok (.istore_n 3, 1) := by decide +kernel
theorem dX10_stemOf_39 : decode cX10_stemOf 39 = .ok (.iload 7, 2) := by decide +kernel
theorem dX10_stemOf_41 : decode cX10_stemOf 41 = .ok (.ifCond .le 14, 3) := by decide +kernel
theorem dX10_stemOf_44 : decode cX10_stemOf 44 = .ok (.iload 4, 2) := by decide +kernel
theorem dX10_stemOf_46 : decode cX10_stemOf 46 = .ok (.iconst (-1), 1) := by decide +kernel
theorem dX10_stemOf_47 : decode cX10_stemOf 47 = .ok (.if_icmp .ne 8, 3) := by decide +kernel
theorem dX10_stemOf_50 : decode cX10_stemOf 50 = .ok (.iload 6, 2) := by decide +kernel
theorem dX10_stemOf_52 : decode cX10_stemOf 52 = .ok (.goto 5, 3) := by decide +kernel
theorem dX10_stemOf_55 : decode cX10_stemOf 55 = .ok (.iload 4, 2) := by decide +kernel
theorem dX10_stemOf_57 : decode cX10_stemOf 57 = .ok (.istore 4, 2) := by decide +kernel
theorem dX10_stemOf_59 : decode cX10_stemOf 59 = .ok (.iload 7, 2) := by decide +kernel
theorem dX10_stemOf_61 : decode cX10_stemOf 61 = .ok (.ifCond .le 8, 3) := by decide +kernel
theorem dX10_stemOf_64 : decode cX10_stemOf 64 = .ok (.iload 6, 2) := by decide +kernel
theorem dX10_stemOf_66 : decode cX10_stemOf 66 = .ok (.goto 5, 3) := by decide +kernel
theorem dX10_stemOf_69 : decode cX10_stemOf 69 = .ok (.iload 5, 2) := by decide +kernel
theorem dX10_stemOf_71 : decode cX10_stemOf 71 = .ok (.istore 5, 2) := by decide +kernel
theorem dX10_stemOf_73 : decode cX10_stemOf 73 = .ok (.iinc 6 1, 3) := by decide +kernel
theorem dX10_stemOf_76 : decode cX10_stemOf 76 = .ok (.goto (-65), 3) := by decide +kernel
theorem dX10_stemOf_79 : decode cX10_stemOf 79 = .ok (.iload_n 2, 1) := by decide +kernel
theorem dX10_stemOf_80 : decode cX10_stemOf 80 = .ok (.ifCond .ne 12, 3) := by decide +kernel
theorem dX10_stemOf_83 : decode cX10_stemOf 83 = .ok (.aload_n 0, 1) := by decide +kernel
theorem dX10_stemOf_84 : decode cX10_stemOf 84 = .ok (.getfield 31, 3) := by decide +kernel
theorem dX10_stemOf_87 : decode cX10_stemOf 87 = .ok (.iload_n 1, 1) := by decide +kernel
theorem dX10_stemOf_88 : decode cX10_stemOf 88 = .ok (.iaload, 1) := by decide +kernel
theorem dX10_stemOf_89 : decode cX10_stemOf 89 = .ok (.goto 24, 3) := by decide +kernel
theorem dX10_stemOf_92 : decode cX10_stemOf 92 = .ok (.iload_n 2, 1) := by decide +kernel
theorem dX10_stemOf_93 : decode cX10_stemOf 93 = .ok (.iconst 1, 1) := by decide +kernel
theorem dX10_stemOf_94 : decode cX10_stemOf 94 = .ok (.if_icmp .ne 7, 3) := by decide +kernel
theorem dX10_stemOf_97 : decode cX10_stemOf 97 = .ok (.iload_n 3, 1) := by decide +kernel
theorem dX10_stemOf_98 : decode cX10_stemOf 98 = .ok (.goto 15, 3) := by decide +kernel
theorem dX10_stemOf_101 : decode cX10_stemOf 101 = .ok (.iload_n 2, 1) := by decide +kernel
theorem dX10_stemOf_102 : decode cX10_stemOf 102 = .ok (.iconst 2, 1) := by decide +kernel
theorem dX10_stemOf_103 : decode cX10_stemOf 103 = .ok (.if_icmp .ne 8, 3) := by decide +kernel
theorem dX10_stemOf_106 : decode cX10_stemOf 106 = .ok (.iload 4, 2) := by decide +kernel
theorem dX10_stemOf_108 : decode cX10_stemOf 108 = .ok (.goto 5, 3) := by decide +kernel
theorem dX10_stemOf_111 : decode cX10_stemOf 111 = .ok (.iload 5, 2) := by decide +kernel
theorem dX10_stemOf_113 : decode cX10_stemOf 113 = .ok (.ireturn, 1) := by decide +kernel
theorem dX10_stem_0 : decode cX10_stem 0 = .ok (.aload_n 0, 1) := by decide +kernel
theorem dX10_stem_1 : decode cX10_stem 1 = .ok (.iload_n 1, 1) := by decide +kernel
theorem dX10_stem_2 : decode cX10_stem 2 = .ok (.invokevirtual 175, 3) := by decide +kernel
theorem dX10_stem_5 : decode cX10_stem 5 = .ok (.ifCond .eq 21, 3) := by decide +kernel
theorem dX10_stem_8 : decode cX10_stem 8 = .ok (.iload_n 2, 1) := by decide +kernel
theorem dX10_stem_9 : decode cX10_stem 9 = .ok (.iconst 0, 1) := by decide +kernel
theorem dX10_stem_10 : decode cX10_stem 10 = .ok (.iconst 3, 1) := by decide +kernel
theorem dX10_stem_11 : decode cX10_stem 11 = .ok (.invokestatic 77, 3) := by decide +kernel
theorem dX10_stem_14 : decode cX10_stem 14 = .ok (.ifCond .eq 12, 3) := by decide +kernel
theorem dX10_stem_17 : decode cX10_stem 17 = .ok (.aload_n 0, 1) := by decide +kernel
theorem dX10_stem_18 : decode cX10_stem 18 = .ok (.iload_n 1, 1) := by decide +kernel
theorem dX10_stem_19 : decode cX10_stem 19 = .ok (.iload_n 2, 1) := by decide +kernel
theorem dX10_stem_20 : decode cX10_stem 20 = .ok (.invokevirtual 178, 3) := by decide +kernel
theorem dX10_stem_23 : decode cX10_stem 23 = .ok (.goto 5, 3) := by decide +kernel
theorem dX10_stem_26 : decode cX10_stem 26 = .ok (.bipush (-2), 2) := by decide +kernel
theorem dX10_stem_28 : decode cX10_stem 28 = .ok (.ireturn, 1) := by decide +kernel
theorem dX10_letterOf_0 : decode cX10_letterOf 0 = .ok (.iload_n 2, 1) := by decide +kernel
theorem dX10_letterOf_1 : decode cX10_letterOf 1 = .ok (.iconst 0, 1) := by decide +kernel
theorem dX10_letterOf_2 : decode cX10_letterOf 2 = .ok (.aload_n 0, 1) := by decide +kernel
theorem dX10_letterOf_3 : decode cX10_letterOf 3 = .ok (.getfield 31, 3) := by decide +kernel
theorem dX10_letterOf_6 : decode cX10_letterOf 6 = .ok (.iload_n 1, 1) := by decide +kernel
theorem dX10_letterOf_7 : decode cX10_letterOf 7 = .ok (.iaload, 1) := by decide +kernel
theorem dX10_letterOf_8 : decode cX10_letterOf 8 = .ok (.iconst 1, 1) := by decide +kernel
theorem dX10_letterOf_9 : decode cX10_letterOf 9 = .ok (.isub, 1) := by decide +kernel
theorem dX10_letterOf_10 : decode cX10_letterOf 10 = .ok (.invokestatic 77, 3) := by decide +kernel
theorem dX10_letterOf_13 : decode cX10_letterOf 13 = .ok (.ifCond .eq 19, 3) := by decide +kernel
theorem dX10_letterOf_16 : decode cX10_letterOf 16 = .ok (.aload_n 0, 1) := by decide +kernel
theorem dX10_letterOf_17 : decode cX10_letterOf 17 = .ok (.getfield 7, 3) := by decide +kernel
theorem dX10_letterOf_20 : decode cX10_letterOf 20 = .ok (.aload_n 0, 1) := by decide +kernel
theorem dX10_letterOf_21 : decode cX10_letterOf 21 = .ok (.getfield 28, 3) := by decide +kernel
theorem dX10_letterOf_24 : decode cX10_letterOf 24 = .ok (.iload_n 1, 1) := by decide +kernel
theorem dX10_letterOf_25 : decode cX10_letterOf 25 = .ok (.iaload, 1) := by decide +kernel
theorem dX10_letterOf_26 : decode cX10_letterOf 26 = .ok (.iload_n 2, 1) := by decide +kernel
theorem dX10_letterOf_27 : decode cX10_letterOf 27 = .ok (.iadd, 1) := by decide +kernel
theorem dX10_letterOf_28 : decode cX10_letterOf 28 = .ok (.iaload, 1) := by decide +kernel
theorem dX10_letterOf_29 : decode cX10_letterOf 29 = .ok (.goto 5, 3) := by decide +kernel
theorem dX10_letterOf_32 : decode cX10_letterOf 32 = .ok (.bipush (-2), 2) := by decide +kernel
theorem dX10_letterOf_34 : decode cX10_letterOf 34 = .ok (.ireturn, 1) := by decide +kernel
theorem dX10_letter_0 : decode cX10_letter 0 = .ok (.aload_n 0, 1) := by decide +kernel
theorem dX10_letter_1 : decode cX10_letter 1 = .ok (.iload_n 1, 1) := by decide +kernel
theorem dX10_letter_2 : decode cX10_letter 2 = .ok (.invokevirtual 175, 3) := by decide +kernel
theorem dX10_letter_5 : decode cX10_letter 5 = .ok (.ifCond .eq 12, 3) := by decide +kernel
theorem dX10_letter_8 : decode cX10_letter 8 = .ok (.aload_n 0, 1) := by decide +kernel
theorem dX10_letter_9 : decode cX10_letter 9 = .ok (.iload_n 1, 1) := by decide +kernel
theorem dX10_letter_10 : decode cX10_letter 10 = .ok (.iload_n 2, 1) := by decide +kernel
theorem dX10_letter_11 : decode cX10_letter 11 = .ok (.invokevirtual 181, 3) := by decide +kernel
theorem dX10_letter_14 : decode cX10_letter 14 = .ok (.goto 5, 3) := by decide +kernel
theorem dX10_letter_17 : decode cX10_letter 17 = .ok (.bipush (-2), 2) := by decide +kernel
theorem dX10_letter_19 : decode cX10_letter 19 = .ok (.ireturn, 1) := by decide +kernel
theorem dX10_ends_0 : decode cX10_ends 0 = .ok (.iload 4, 2) := by decide +kernel
theorem dX10_ends_2 : decode cX10_ends 2 = .ok (.iconst 1, 1) := by decide +kernel
theorem dX10_ends_3 : decode cX10_ends 3 = .ok (.if_icmp .le 54, 3) := by decide +kernel
theorem dX10_ends_6 : decode cX10_ends 6 = .ok (.aload_n 0, 1) := by decide +kernel
theorem dX10_ends_7 : decode cX10_ends 7 = .ok (.getfield 40, 3) := by decide +kernel
theorem dX10_ends_10 : decode cX10_ends 10 = .ok (.aload_n 0, 1) := by decide +kernel
theorem dX10_ends_11 : decode cX10_ends 11 = .ok (.getfield 184, 3) := by decide +kernel
theorem dX10_ends_14 : decode cX10_ends 14 = .ok (.iload_n 1, 1) := by decide +kernel
theorem dX10_ends_15 : decode cX10_ends 15 = .ok (.iastore, 1) := by decide +kernel
theorem dX10_ends_16 : decode cX10_ends 16 = .ok (.aload_n 0, 1) := by decide +kernel
theorem dX10_ends_17 : decode cX10_ends 17 = .ok (.getfield 43, 3) := by decide +kernel
theorem dX10_ends_20 : decode cX10_ends 20 = .ok (.aload_n 0, 1) := by decide +kernel
theorem dX10_ends_21 : decode cX10_ends 21 = .ok (.getfield 184, 3) := by decide +kernel
theorem dX10_ends_24 : decode cX10_ends 24 = .ok (.iload_n 2, 1) := by decide +kernel
theorem dX10_ends_25 : decode cX10_ends 25 = .ok (.iastore, 1) := by decide +kernel
theorem dX10_ends_26 : decode cX10_ends 26 = .ok (.aload_n 0, 1) := by decide +kernel
theorem dX10_ends_27 : decode cX10_ends 27 = .ok (.getfield 46, 3) := by decide +kernel
theorem dX10_ends_30 : decode cX10_ends 30 = .ok (.aload_n 0, 1) := by decide +kernel
theorem dX10_ends_31 : decode cX10_ends 31 = .ok (.getfield 184, 3) := by decide +kernel
theorem dX10_ends_34 : decode cX10_ends 34 = .ok (.iload_n 3, 1) := by decide +kernel
theorem dX10_ends_35 : decode cX10_ends 35 = .ok (.iastore, 1) := by decide +kernel
theorem dX10_ends_36 : decode cX10_ends 36 = .ok (.aload_n 0, 1) := by decide +kernel
theorem dX10_ends_37 : decode cX10_ends 37 = .ok (.getfield 49, 3) := by decide +kernel
theorem dX10_ends_40 : decode cX10_ends 40 = .ok (.aload_n 0, 1) := by decide +kernel
theorem dX10_ends_41 : decode cX10_ends 41 = .ok (.getfield 184, 3) := by decide +kernel
theorem dX10_ends_44 : decode cX10_ends 44 = .ok (.iload 4, 2) := by decide +kernel
theorem dX10_ends_46 : decode cX10_ends 46 = .ok (.iastore, 1) := by decide +kernel
theorem dX10_ends_47 : decode cX10_ends 47 = .ok (.aload_n 0, 1) := by decide +kernel
theorem dX10_ends_48 : decode cX10_ends 48 = .ok (.dup, 1) := by decide +kernel
theorem dX10_ends_49 : decode cX10_ends 49 = .ok (.getfield 184, 3) := by decide +kernel
theorem dX10_ends_52 : decode cX10_ends 52 = .ok (.iconst 1, 1) := by decide +kernel
theorem dX10_ends_53 : decode cX10_ends 53 = .ok (.iadd, 1) := by decide +kernel
theorem dX10_ends_54 : decode cX10_ends 54 = .ok (.putfield 184, 3) := by decide +kernel
theorem dX10_ends_57 : decode cX10_ends 57 = .ok (.return_, 1) := by decide +kernel
theorem dX10_findsChains_0 : decode cX10_findsChains 0 = .ok (.aload_n 0, 1) := by decide +kernel
theorem dX10_findsChains_1 : decode cX10_findsChains 1 = .ok (.invokevirtual 147, 3) := by decide +kernel
theorem dX10_findsChains_4 : decode cX10_findsChains 4 = .ok (.aload_n 0, 1) := by decide +kernel
theorem dX10_findsChains_5 : decode cX10_findsChains 5 = .ok (.iconst 0, 1) := by decide +kernel
theorem dX10_findsChains_6 : decode cX10_findsChains 6 = .ok (.putfield 184, 3) := by decide +kernel
theorem dX10_findsChains_9 : decode cX10_findsChains 9 = .ok (.iconst 0, 1) := by decide +kernel
theorem dX10_findsChains_10 : decode cX10_findsChains 10 = .ok (.istore_n 1, 1) := by decide +kernel
theorem dX10_findsChains_11 : decode cX10_findsChains 11 = .ok (.iload_n 1, 1) := by decide +kernel
theorem dX10_findsChains_12 : decode cX10_findsChains 12 = .ok (.aload_n 0, 1) := by decide +kernel
theorem dX10_findsChains_13 : decode cX10_findsChains 13 = .ok (.getfield 135, 3) := by decide +kernel
theorem dX10_findsChains_16 : decode cX10_findsChains 16 = .ok (.if_icmp .ge 116, 3) := by decide +kernel
theorem dX10_findsChains_19 : decode cX10_findsChains 19 = .ok (.iconst (-1), 1) := by decide +kernel
theorem dX10_findsChains_20 : decode cX10_findsChains 20 = .ok (.istore_n 2, 1) := by decide +kernel
theorem dX10_findsChains_21 : decode cX10_findsChains 21 = .ok (.iconst (-1), 1) := by decide +kernel
theorem dX10_findsChains_22 : decode cX10_findsChains 22 = .ok (.istore_n 3, 1) := by decide +kernel
theorem dX10_findsChains_23 : decode cX10_findsChains 23 = .ok (.iconst 0, 1) := by decide +kernel
theorem dX10_findsChains_24 : decode cX10_findsChains 24 = .ok (.istore 4, 2) := by decide +kernel
theorem dX10_findsChains_26 : decode cX10_findsChains 26 = .ok (.iconst 0, 1) := by decide +kernel
theorem dX10_findsChains_27 : decode cX10_findsChains 27 = .ok (.istore 5, 2) := by decide +kernel
theorem dX10_findsChains_29 : decode cX10_findsChains 29 = .ok (.iload 5, 2) := by decide +kernel
theorem dX10_findsChains_31 : decode cX10_findsChains 31 = .ok (.aload_n 0, 1) := by decide +kernel
theorem dX10_findsChains_32 : decode cX10_findsChains 32 = .ok (.getfield 109, 3) := by decide +kernel
theorem dX10_findsChains_35 : decode cX10_findsChains 35 = .ok (.if_icmp .ge 82, 3) := by decide +kernel
theorem dX10_findsChains_38 : decode cX10_findsChains 38 = .ok (.aload_n 0, 1) := by decide +kernel
theorem dX10_findsChains_39 : decode cX10_findsChains 39 = .ok (.getfield 37, 3) := by decide +kernel
theorem dX10_findsChains_42 : decode cX10_findsChains 42 = .ok (.bipush 110, 2) := by decide +kernel
theorem dX10_findsChains_44 : decode cX10_findsChains 44 = .ok (.iload 5, 2) := by decide +kernel
theorem dX10_findsChains_46 : decode cX10_findsChains 46 = .ok (.imul, 1) := by decide +kernel
theorem dX10_findsChains_47 : decode cX10_findsChains 47 = .ok (.iload_n 1, 1) := by decide +kernel
theorem dX10_findsChains_48 : decode cX10_findsChains 48 = .ok (.iadd, 1) := by decide +kernel
theorem dX10_findsChains_49 : decode cX10_findsChains 49 = .ok (.iaload, 1) := by decide +kernel
theorem dX10_findsChains_50 : decode cX10_findsChains 50 = .ok (.istore 6, 2) := by decide +kernel
theorem dX10_findsChains_52 : decode cX10_findsChains 52 = .ok (.iload 6, 2) := by decide +kernel
theorem dX10_findsChains_54 : decode cX10_findsChains 54 = .ok (.ifCond .le 57, 3) := by decide +kernel
theorem dX10_findsChains_57 : decode cX10_findsChains 57 = .ok (.iload_n 2, 1) := by decide +kernel
theorem dX10_findsChains_58 : decode cX10_findsChains 58 = .ok (.iconst (-1), 1) := by decide +kernel
theorem dX10_findsChains_59 : decode cX10_findsChains 59 = .ok (.if_icmp .eq 30, 3) := by decide +kernel
theorem dX10_findsChains_62 : decode cX10_findsChains 62 = .ok (.iload 5, 2) := by decide +kernel
theorem dX10_findsChains_64 : decode cX10_findsChains 64 = .ok (.iload_n 3, 1) := by decide +kernel
theorem dX10_findsChains_65 : decode cX10_findsChains 65 = .ok (.isub, 1) := by decide +kernel
theorem dX10_findsChains_66 : decode cX10_findsChains 66 = .ok (.aload_n 0, 1) := by decide +kernel
theorem dX10_findsChains_67 : decode cX10_findsChains 67 = .ok (.getfield 13, 3) := by decide +kernel
theorem dX10_findsChains_70 : decode cX10_findsChains 70 = .ok (.iconst 2, 1) := by decide +kernel
theorem dX10_findsChains_71 : decode cX10_findsChains 71 = .ok (.iaload, 1) := by decide +kernel
theorem dX10_findsChains_72 : decode cX10_findsChains 72 = .ok (.if_icmp .le 17, 3) := by decide +kernel
theorem dX10_findsChains_75 : decode cX10_findsChains 75 = .ok (.aload_n 0, 1) := by decide +kernel
theorem dX10_findsChains_76 : decode cX10_findsChains 76 = .ok (.iload_n 1, 1) := by decide +kernel
theorem dX10_findsChains_77 : decode cX10_findsChains 77 = .ok (.iload_n 2, 1) := by decide +kernel
theorem dX10_findsChains_78 : decode cX10_findsChains 78 = .ok (.iload_n 3, 1) := by decide +kernel
theorem dX10_findsChains_79 : decode cX10_findsChains 79 = .ok (.iload 4, 2) := by decide +kernel
theorem dX10_findsChains_81 : decode cX10_findsChains 81 = .ok (.invokevirtual 187, 3) := by decide +kernel
theorem dX10_findsChains_84 : decode cX10_findsChains 84 = .ok (.iconst (-1), 1) := by decide +kernel
theorem dX10_findsChains_85 : decode cX10_findsChains 85 = .ok (.istore_n 2, 1) := by decide +kernel
theorem dX10_findsChains_86 : decode cX10_findsChains 86 = .ok (.iconst 0, 1) := by decide +kernel
theorem dX10_findsChains_87 : decode cX10_findsChains 87 = .ok (.istore 4, 2) := by decide +kernel
theorem dX10_findsChains_89 : decode cX10_findsChains 89 = .ok (.iload_n 2, 1) := by decide +kernel
theorem dX10_findsChains_90 : decode cX10_findsChains 90 = .ok (.iconst (-1), 1) := by decide +kernel
theorem dX10_findsChains_91 : decode cX10_findsChains 91 = .ok (.if_icmp .ne 8, 3) := by decide +kernel
theorem dX10_findsChains_94 : decode cX10_findsChains 94 = .ok (.iload 5, 2) := by decide +kernel
theorem dX10_findsChains_96 : decode cX10_findsChains 96 = .ok (.goto 4, 3) := by decide +kernel
theorem dX10_findsChains_99 : decode cX10_findsChains 99 = .ok (.iload_n 2, 1) := by decide +kernel
theorem dX10_findsChains_100 : decode cX10_findsChains 100 = .ok (.istore_n 2, 1) := by decide +kernel
theorem dX10_findsChains_101 : decode cX10_findsChains 101 = .ok (.iload 5, 2) := by decide +kernel
theorem dX10_findsChains_103 : decode cX10_findsChains 103 = .ok (.istore_n 3, 1) := by decide +kernel
theorem dX10_findsChains_104 : decode cX10_findsChains 104 = .ok (.iload 4, 2) := by decide +kernel
theorem dX10_findsChains_106 : decode cX10_findsChains 106 = .ok (.iload 6, 2) := by decide +kernel
theorem dX10_findsChains_108 : decode cX10_findsChains 108 = .ok (.iadd, 1) := by decide +kernel
theorem dX10_findsChains_109 : decode cX10_findsChains 109 = .ok (.istore 4, 2) := by decide +kernel
theorem dX10_findsChains_111 : decode cX10_findsChains 111 = .ok (.iinc 5 1, 3) := by decide +kernel
theorem dX10_findsChains_114 : decode cX10_findsChains 114 = .ok (.goto (-85), 3) := by decide +kernel
theorem dX10_findsChains_117 : decode cX10_findsChains 117 = .ok (.aload_n 0, 1) := by decide +kernel
theorem dX10_findsChains_118 : decode cX10_findsChains 118 = .ok (.iload_n 1, 1) := by decide +kernel
theorem dX10_findsChains_119 : decode cX10_findsChains 119 = .ok (.iload_n 2, 1) := by decide +kernel
theorem dX10_findsChains_120 : decode cX10_findsChains 120 = .ok (.iload_n 3, 1) := by decide +kernel
theorem dX10_findsChains_121 : decode cX10_findsChains 121 = .ok (.iload 4, 2) := by decide +kernel
theorem dX10_findsChains_123 : decode cX10_findsChains 123 = .ok (.invokevirtual 187, 3) := by decide +kernel
theorem dX10_findsChains_126 : decode cX10_findsChains 126 = .ok (.iinc 1 1, 3) := by decide +kernel
theorem dX10_findsChains_129 : decode cX10_findsChains 129 = .ok (.goto (-118), 3) := by decide +kernel
theorem dX10_findsChains_132 : decode cX10_findsChains 132 = .ok (.return_, 1) := by decide +kernel
theorem dX10_chainsOf_0 : decode cX10_chainsOf 0 = .ok (.aload_n 0, 1) := by decide +kernel
theorem dX10_chainsOf_1 : decode cX10_chainsOf 1 = .ok (.invokevirtual 191, 3) := by decide +kernel
theorem dX10_chainsOf_4 : decode cX10_chainsOf 4 = .ok (.aload_n 0, 1) := by decide +kernel
theorem dX10_chainsOf_5 : decode cX10_chainsOf 5 = .ok (.getfield 184, 3) := by decide +kernel
theorem dX10_chainsOf_8 : decode cX10_chainsOf 8 = .ok (.ireturn, 1) := by decide +kernel
theorem dX10_chains_0 : decode cX10_chains 0 = .ok (.aload_n 0, 1) := by decide +kernel
theorem dX10_chains_1 : decode cX10_chains 1 = .ok (.invokevirtual 194, 3) := by decide +kernel
theorem dX10_chains_4 : decode cX10_chains 4 = .ok (.ireturn, 1) := by decide +kernel
theorem dX10_weight_0 : decode cX10_weight 0 = .ok (.aload_n 0, 1) := by decide +kernel
theorem dX10_weight_1 : decode cX10_weight 1 = .ok (.getfield 49, 3) := by decide +kernel
theorem dX10_weight_4 : decode cX10_weight 4 = .ok (.iload_n 1, 1) := by decide +kernel
theorem dX10_weight_5 : decode cX10_weight 5 = .ok (.iaload, 1) := by decide +kernel
theorem dX10_weight_6 : decode cX10_weight 6 = .ok (.aload_n 0, 1) := by decide +kernel
theorem dX10_weight_7 : decode cX10_weight 7 = .ok (.getfield 46, 3) := by decide +kernel
theorem dX10_weight_10 : decode cX10_weight 10 = .ok (.iload_n 1, 1) := by decide +kernel
theorem dX10_weight_11 : decode cX10_weight 11 = .ok (.iaload, 1) := by decide +kernel
theorem dX10_weight_12 : decode cX10_weight 12 = .ok (.aload_n 0, 1) := by decide +kernel
theorem dX10_weight_13 : decode cX10_weight 13 = .ok (.getfield 43, 3) := by decide +kernel
theorem dX10_weight_16 : decode cX10_weight 16 = .ok (.iload_n 1, 1) := by decide +kernel
theorem dX10_weight_17 : decode cX10_weight 17 = .ok (.iaload, 1) := by decide +kernel
theorem dX10_weight_18 : decode cX10_weight 18 = .ok (.isub, 1) := by decide +kernel
theorem dX10_weight_19 : decode cX10_weight 19 = .ok (.iconst 1, 1) := by decide +kernel
theorem dX10_weight_20 : decode cX10_weight 20 = .ok (.iadd, 1) := by decide +kernel
theorem dX10_weight_21 : decode cX10_weight 21 = .ok (.imul, 1) := by decide +kernel
theorem dX10_weight_22 : decode cX10_weight 22 = .ok (.ireturn, 1) := by decide +kernel
theorem dX10_chainOf_0 : decode cX10_chainOf 0 = .ok (.aload_n 0, 1) := by decide +kernel
theorem dX10_chainOf_1 : decode cX10_chainOf 1 = .ok (.invokevirtual 191, 3) := by decide +kernel
theorem dX10_chainOf_4 : decode cX10_chainOf 4 = .ok (.iload_n 1, 1) := by decide +kernel
theorem dX10_chainOf_5 : decode cX10_chainOf 5 = .ok (.aload_n 0, 1) := by decide +kernel
theorem dX10_chainOf_6 : decode cX10_chainOf 6 = .ok (.getfield 184, 3) := by decide +kernel
theorem dX10_chainOf_9 : decode cX10_chainOf 9 = .ok (.if_icmp .lt 5, 3) := by decide +kernel
theorem dX10_chainOf_12 : decode cX10_chainOf 12 = .ok (.iconst (-1), 1) := by decide +kernel
theorem dX10_chainOf_13 : decode cX10_chainOf 13 = .ok (.ireturn, 1) := by decide +kernel
theorem dX10_chainOf_14 : decode cX10_chainOf 14 = .ok (.iload_n 2, 1) := by decide +kernel
theorem dX10_chainOf_15 : decode cX10_chainOf 15 = .ok (.tableswitch 57 0 3 #[29, 36, 43, 50], 29) := by decide +kernel
theorem dX10_chainOf_44 : decode cX10_chainOf 44 = .ok (.aload_n 0, 1) := by decide +kernel
theorem dX10_chainOf_45 : decode cX10_chainOf 45 = .ok (.getfield 40, 3) := by decide +kernel
theorem dX10_chainOf_48 : decode cX10_chainOf 48 = .ok (.iload_n 1, 1) := by decide +kernel
theorem dX10_chainOf_49 : decode cX10_chainOf 49 = .ok (.iaload, 1) := by decide +kernel
theorem dX10_chainOf_50 : decode cX10_chainOf 50 = .ok (.ireturn, 1) := by decide +kernel
theorem dX10_chainOf_51 : decode cX10_chainOf 51 = .ok (.aload_n 0, 1) := by decide +kernel
theorem dX10_chainOf_52 : decode cX10_chainOf 52 = .ok (.getfield 43, 3) := by decide +kernel
theorem dX10_chainOf_55 : decode cX10_chainOf 55 = .ok (.iload_n 1, 1) := by decide +kernel
theorem dX10_chainOf_56 : decode cX10_chainOf 56 = .ok (.iaload, 1) := by decide +kernel
theorem dX10_chainOf_57 : decode cX10_chainOf 57 = .ok (.ireturn, 1) := by decide +kernel
theorem dX10_chainOf_58 : decode cX10_chainOf 58 = .ok (.aload_n 0, 1) := by decide +kernel
theorem dX10_chainOf_59 : decode cX10_chainOf 59 = .ok (.getfield 46, 3) := by decide +kernel
theorem dX10_chainOf_62 : decode cX10_chainOf 62 = .ok (.iload_n 1, 1) := by decide +kernel
theorem dX10_chainOf_63 : decode cX10_chainOf 63 = .ok (.iaload, 1) := by decide +kernel
theorem dX10_chainOf_64 : decode cX10_chainOf 64 = .ok (.ireturn, 1) := by decide +kernel
theorem dX10_chainOf_65 : decode cX10_chainOf 65 = .ok (.aload_n 0, 1) := by decide +kernel
theorem dX10_chainOf_66 : decode cX10_chainOf 66 = .ok (.getfield 49, 3) := by decide +kernel
theorem dX10_chainOf_69 : decode cX10_chainOf 69 = .ok (.iload_n 1, 1) := by decide +kernel
theorem dX10_chainOf_70 : decode cX10_chainOf 70 = .ok (.iaload, 1) := by decide +kernel
theorem dX10_chainOf_71 : decode cX10_chainOf 71 = .ok (.ireturn, 1) := by decide +kernel
theorem dX10_chainOf_72 : decode cX10_chainOf 72 = .ok (.aload_n 0, 1) := by decide +kernel
theorem dX10_chainOf_73 : decode cX10_chainOf 73 = .ok (.iload_n 1, 1) := by decide +kernel
theorem dX10_chainOf_74 : decode cX10_chainOf 74 = .ok (.invokevirtual 198, 3) := by decide +kernel
theorem dX10_chainOf_77 : decode cX10_chainOf 77 = .ok (.ireturn, 1) := by decide +kernel
theorem dX10_chain_0 : decode cX10_chain 0 = .ok (.iload_n 1, 1) := by decide +kernel
theorem dX10_chain_1 : decode cX10_chain 1 = .ok (.iconst 0, 1) := by decide +kernel
theorem dX10_chain_2 : decode cX10_chain 2 = .ok (.bipush 99, 2) := by decide +kernel
theorem dX10_chain_4 : decode cX10_chain 4 = .ok (.invokestatic 77, 3) := by decide +kernel
theorem dX10_chain_7 : decode cX10_chain 7 = .ok (.ifCond .eq 21, 3) := by decide +kernel
theorem dX10_chain_10 : decode cX10_chain 10 = .ok (.iload_n 2, 1) := by decide +kernel
theorem dX10_chain_11 : decode cX10_chain 11 = .ok (.iconst 0, 1) := by decide +kernel
theorem dX10_chain_12 : decode cX10_chain 12 = .ok (.iconst 4, 1) := by decide +kernel
theorem dX10_chain_13 : decode cX10_chain 13 = .ok (.invokestatic 77, 3) := by decide +kernel
theorem dX10_chain_16 : decode cX10_chain 16 = .ok (.ifCond .eq 12, 3) := by decide +kernel
theorem dX10_chain_19 : decode cX10_chain 19 = .ok (.aload_n 0, 1) := by decide +kernel
theorem dX10_chain_20 : decode cX10_chain 20 = .ok (.iload_n 1, 1) := by decide +kernel
theorem dX10_chain_21 : decode cX10_chain 21 = .ok (.iload_n 2, 1) := by decide +kernel
theorem dX10_chain_22 : decode cX10_chain 22 = .ok (.invokevirtual 201, 3) := by decide +kernel
theorem dX10_chain_25 : decode cX10_chain 25 = .ok (.goto 5, 3) := by decide +kernel
theorem dX10_chain_28 : decode cX10_chain 28 = .ok (.bipush (-2), 2) := by decide +kernel
theorem dX10_chain_30 : decode cX10_chain 30 = .ok (.ireturn, 1) := by decide +kernel
theorem dX10_isGap_0 : decode cX10_isGap 0 = .ok (.aload_n 0, 1) := by decide +kernel
theorem dX10_isGap_1 : decode cX10_isGap 1 = .ok (.invokevirtual 147, 3) := by decide +kernel
theorem dX10_isGap_4 : decode cX10_isGap 4 = .ok (.iload_n 1, 1) := by decide +kernel
theorem dX10_isGap_5 : decode cX10_isGap 5 = .ok (.iconst 1, 1) := by decide +kernel
theorem dX10_isGap_6 : decode cX10_isGap 6 = .ok (.aload_n 0, 1) := by decide +kernel
theorem dX10_isGap_7 : decode cX10_isGap 7 = .ok (.getfield 109, 3) := by decide +kernel
theorem dX10_isGap_10 : decode cX10_isGap 10 = .ok (.iconst 1, 1) := by decide +kernel
theorem dX10_isGap_11 : decode cX10_isGap 11 = .ok (.isub, 1) := by decide +kernel
theorem dX10_isGap_12 : decode cX10_isGap 12 = .ok (.invokestatic 77, 3) := by decide +kernel
theorem dX10_isGap_15 : decode cX10_isGap 15 = .ok (.ireturn, 1) := by decide +kernel
theorem dX10_overOf_0 : decode cX10_overOf 0 = .ok (.aload_n 0, 1) := by decide +kernel
theorem dX10_overOf_1 : decode cX10_overOf 1 = .ok (.invokevirtual 191, 3) := by decide +kernel
theorem dX10_overOf_4 : decode cX10_overOf 4 = .ok (.iconst 0, 1) := by decide +kernel
theorem dX10_overOf_5 : decode cX10_overOf 5 = .ok (.istore_n 3, 1) := by decide +kernel
theorem dX10_overOf_6 : decode cX10_overOf 6 = .ok (.iconst 0, 1) := by decide +kernel
theorem dX10_overOf_7 : decode cX10_overOf 7 = .ok (.istore 4, 2) := by decide +kernel
theorem dX10_overOf_9 : decode cX10_overOf 9 = .ok (.iconst 0, 1) := by decide +kernel
theorem dX10_overOf_10 : decode cX10_overOf 10 = .ok (.istore 5, 2) := by decide +kernel
theorem dX10_overOf_12 : decode cX10_overOf 12 = .ok (.iload 5, 2) := by decide +kernel
theorem dX10_overOf_14 : decode cX10_overOf 14 = .ok (.aload_n 0, 1) := by decide +kernel
theorem dX10_overOf_15 : decode cX10_overOf 15 = .ok (.getfield 184, 3) := by decide +kernel
theorem dX10_overOf_18 : decode cX10_overOf 18 = .ok (.if_icmp .ge 71, 3) := by decide +kernel
theorem dX10_overOf_21 : decode cX10_overOf 21 = .ok (.aload_n 0, 1) := by decide +kernel
theorem dX10_overOf_22 : decode cX10_overOf 22 = .ok (.getfield 43, 3) := by decide +kernel
theorem dX10_overOf_25 : decode cX10_overOf 25 = .ok (.iload 5, 2) := by decide +kernel
theorem dX10_overOf_27 : decode cX10_overOf 27 = .ok (.iaload, 1) := by decide +kernel
theorem dX10_overOf_28 : decode cX10_overOf 28 = .ok (.iload_n 1, 1) := by decide +kernel
theorem dX10_overOf_29 : decode cX10_overOf 29 = .ok (.if_icmp .ge 18, 3) := by decide +kernel
theorem dX10_overOf_32 : decode cX10_overOf 32 = .ok (.aload_n 0, 1) := by decide +kernel
theorem dX10_overOf_33 : decode cX10_overOf 33 = .ok (.getfield 46, 3) := by decide +kernel
theorem dX10_overOf_36 : decode cX10_overOf 36 = .ok (.iload 5, 2) := by decide +kernel
theorem dX10_overOf_38 : decode cX10_overOf 38 = .ok (.iaload, 1) := by decide +kernel
theorem dX10_overOf_39 : decode cX10_overOf 39 = .ok (.iload_n 1, 1) := by decide +kernel
theorem dX10_overOf_40 : decode cX10_overOf 40 = .ok (.if_icmp .lt 7, 3) := by decide +kernel
theorem dX10_overOf_43 : decode cX10_overOf 43 = .ok (.iconst 1, 1) := by decide +kernel
theorem dX10_overOf_44 : decode cX10_overOf 44 = .ok (.goto 4, 3) := by decide +kernel
theorem dX10_overOf_47 : decode cX10_overOf 47 = .ok (.iconst 0, 1) := by decide +kernel
theorem dX10_overOf_48 : decode cX10_overOf 48 = .ok (.istore 6, 2) := by decide +kernel
theorem dX10_overOf_50 : decode cX10_overOf 50 = .ok (.iload_n 3, 1) := by decide +kernel
theorem dX10_overOf_51 : decode cX10_overOf 51 = .ok (.iload 6, 2) := by decide +kernel
theorem dX10_overOf_53 : decode cX10_overOf 53 = .ok (.ifCond .eq 7, 3) := by decide +kernel
theorem dX10_overOf_56 : decode cX10_overOf 56 = .ok (.iconst 1, 1) := by decide +kernel
theorem dX10_overOf_57 : decode cX10_overOf 57 = .ok (.goto 4, 3) := by decide +kernel
theorem dX10_overOf_60 : decode cX10_overOf 60 = .ok (.iconst 0, 1) := by decide +kernel
theorem dX10_overOf_61 : decode cX10_overOf 61 = .ok (.iadd, 1) := by decide +kernel
theorem dX10_overOf_62 : decode cX10_overOf 62 = .ok (.istore_n 3, 1) := by decide +kernel
theorem dX10_overOf_63 : decode cX10_overOf 63 = .ok (.iload 4, 2) := by decide +kernel
theorem dX10_overOf_65 : decode cX10_overOf 65 = .ok (.iload 6, 2) := by decide +kernel
theorem dX10_overOf_67 : decode cX10_overOf 67 = .ok (.ifCond .eq 12, 3) := by decide +kernel
theorem dX10_overOf_70 : decode cX10_overOf 70 = .ok (.aload_n 0, 1) := by decide +kernel
theorem dX10_overOf_71 : decode cX10_overOf 71 = .ok (.iload 5, 2) := by decide +kernel
theorem dX10_overOf_73 : decode cX10_overOf 73 = .ok (.invokevirtual 198, 3) := by decide +kernel
theorem dX10_overOf_76 : decode cX10_overOf 76 = .ok (.goto 4, 3) := by decide +kernel
theorem dX10_overOf_79 : decode cX10_overOf 79 = .ok (.iconst 0, 1) := by decide +kernel
theorem dX10_overOf_80 : decode cX10_overOf 80 = .ok (.iadd, 1) := by decide +kernel
theorem dX10_overOf_81 : decode cX10_overOf 81 = .ok (.istore 4, 2) := by decide +kernel
theorem dX10_overOf_83 : decode cX10_overOf 83 = .ok (.iinc 5 1, 3) := by decide +kernel
theorem dX10_overOf_86 : decode cX10_overOf 86 = .ok (.goto (-74), 3) := by decide +kernel
theorem dX10_overOf_89 : decode cX10_overOf 89 = .ok (.iload_n 2, 1) := by decide +kernel
theorem dX10_overOf_90 : decode cX10_overOf 90 = .ok (.ifCond .ne 7, 3) := by decide +kernel
theorem dX10_overOf_93 : decode cX10_overOf 93 = .ok (.iload_n 3, 1) := by decide +kernel
theorem dX10_overOf_94 : decode cX10_overOf 94 = .ok (.goto 5, 3) := by decide +kernel
theorem dX10_overOf_97 : decode cX10_overOf 97 = .ok (.iload 4, 2) := by decide +kernel
theorem dX10_overOf_99 : decode cX10_overOf 99 = .ok (.ireturn, 1) := by decide +kernel
theorem dX10_over_0 : decode cX10_over 0 = .ok (.aload_n 0, 1) := by decide +kernel
theorem dX10_over_1 : decode cX10_over 1 = .ok (.iload_n 1, 1) := by decide +kernel
theorem dX10_over_2 : decode cX10_over 2 = .ok (.invokevirtual 204, 3) := by decide +kernel
theorem dX10_over_5 : decode cX10_over 5 = .ok (.ifCond .eq 19, 3) := by decide +kernel
theorem dX10_over_8 : decode cX10_over 8 = .ok (.iload_n 2, 1) := by decide +kernel
theorem dX10_over_9 : decode cX10_over 9 = .ok (.invokestatic 207, 3) := by decide +kernel
theorem dX10_over_12 : decode cX10_over 12 = .ok (.ifCond .eq 12, 3) := by decide +kernel
theorem dX10_over_15 : decode cX10_over 15 = .ok (.aload_n 0, 1) := by decide +kernel
theorem dX10_over_16 : decode cX10_over 16 = .ok (.iload_n 1, 1) := by decide +kernel
theorem dX10_over_17 : decode cX10_over 17 = .ok (.iload_n 2, 1) := by decide +kernel
theorem dX10_over_18 : decode cX10_over 18 = .ok (.invokevirtual 210, 3) := by decide +kernel
theorem dX10_over_21 : decode cX10_over 21 = .ok (.goto 5, 3) := by decide +kernel
theorem dX10_over_24 : decode cX10_over 24 = .ok (.bipush (-2), 2) := by decide +kernel
theorem dX10_over_26 : decode cX10_over 26 = .ok (.ireturn, 1) := by decide +kernel
theorem dX10_costNow_0 : decode cX10_costNow 0 = .ok (.aload_n 0, 1) := by decide +kernel
theorem dX10_costNow_1 : decode cX10_costNow 1 = .ok (.iload_n 1, 1) := by decide +kernel
theorem dX10_costNow_2 : decode cX10_costNow 2 = .ok (.iload_n 2, 1) := by decide +kernel
theorem dX10_costNow_3 : decode cX10_costNow 3 = .ok (.invokevirtual 162, 3) := by decide +kernel
theorem dX10_costNow_6 : decode cX10_costNow 6 = .ok (.aload_n 0, 1) := by decide +kernel
theorem dX10_costNow_7 : decode cX10_costNow 7 = .ok (.getfield 153, 3) := by decide +kernel
theorem dX10_costNow_10 : decode cX10_costNow 10 = .ok (.aload_n 0, 1) := by decide +kernel
theorem dX10_costNow_11 : decode cX10_costNow 11 = .ok (.getfield 156, 3) := by decide +kernel
theorem dX10_costNow_14 : decode cX10_costNow 14 = .ok (.isub, 1) := by decide +kernel
theorem dX10_costNow_15 : decode cX10_costNow 15 = .ok (.istore_n 3, 1) := by decide +kernel
theorem dX10_costNow_16 : decode cX10_costNow 16 = .ok (.iconst 4, 1) := by decide +kernel
theorem dX10_costNow_17 : decode cX10_costNow 17 = .ok (.aload_n 0, 1) := by decide +kernel
theorem dX10_costNow_18 : decode cX10_costNow 18 = .ok (.getfield 156, 3) := by decide +kernel
theorem dX10_costNow_21 : decode cX10_costNow 21 = .ok (.imul, 1) := by decide +kernel
theorem dX10_costNow_22 : decode cX10_costNow 22 = .ok (.iload_n 3, 1) := by decide +kernel
theorem dX10_costNow_23 : decode cX10_costNow 23 = .ok (.isub, 1) := by decide +kernel
theorem dX10_costNow_24 : decode cX10_costNow 24 = .ok (.istore 4, 2) := by decide +kernel
theorem dX10_costNow_26 : decode cX10_costNow 26 = .ok (.aload_n 0, 1) := by decide +kernel
theorem dX10_costNow_27 : decode cX10_costNow 27 = .ok (.getfield 13, 3) := by decide +kernel
theorem dX10_costNow_30 : decode cX10_costNow 30 = .ok (.iconst 0, 1) := by decide +kernel
theorem dX10_costNow_31 : decode cX10_costNow 31 = .ok (.iaload, 1) := by decide +kernel
theorem dX10_costNow_32 : decode cX10_costNow 32 = .ok (.tableswitch 69 0 2 #[28, 39, 53], 28) := by decide +kernel
theorem dX10_costNow_60 : decode cX10_costNow 60 = .ok (.iconst 2, 1) := by decide +kernel
theorem dX10_costNow_61 : decode cX10_costNow 61 = .ok (.aload_n 0, 1) := by decide +kernel
theorem dX10_costNow_62 : decode cX10_costNow 62 = .ok (.getfield 156, 3) := by decide +kernel
theorem dX10_costNow_65 : decode cX10_costNow 65 = .ok (.imul, 1) := by decide +kernel
theorem dX10_costNow_66 : decode cX10_costNow 66 = .ok (.istore 4, 2) := by decide +kernel
theorem dX10_costNow_68 : decode cX10_costNow 68 = .ok (.goto 46, 3) := by decide +kernel
theorem dX10_costNow_71 : decode cX10_costNow 71 = .ok (.aload_n 0, 1) := by decide +kernel
theorem dX10_costNow_72 : decode cX10_costNow 72 = .ok (.getfield 156, 3) := by decide +kernel
theorem dX10_costNow_75 : decode cX10_costNow 75 = .ok (.aload_n 0, 1) := by decide +kernel
theorem dX10_costNow_76 : decode cX10_costNow 76 = .ok (.getfield 156, 3) := by decide +kernel
theorem dX10_costNow_79 : decode cX10_costNow 79 = .ok (.imul, 1) := by decide +kernel
theorem dX10_costNow_80 : decode cX10_costNow 80 = .ok (.istore 4, 2) := by decide +kernel
theorem dX10_costNow_82 : decode cX10_costNow 82 = .ok (.goto 32, 3) := by decide +kernel
theorem dX10_costNow_85 : decode cX10_costNow 85 = .ok (.iconst 3, 1) := by decide +kernel
theorem dX10_costNow_86 : decode cX10_costNow 86 = .ok (.aload_n 0, 1) := by decide +kernel
theorem dX10_costNow_87 : decode cX10_costNow 87 = .ok (.getfield 159, 3) := by decide +kernel
theorem dX10_costNow_90 : decode cX10_costNow 90 = .ok (.imul, 1) := by decide +kernel
theorem dX10_costNow_91 : decode cX10_costNow 91 = .ok (.aload_n 0, 1) := by decide +kernel
theorem dX10_costNow_92 : decode cX10_costNow 92 = .ok (.getfield 153, 3) := by decide +kernel
theorem dX10_costNow_95 : decode cX10_costNow 95 = .ok (.iadd, 1) := by decide +kernel
theorem dX10_costNow_96 : decode cX10_costNow 96 = .ok (.istore 4, 2) := by decide +kernel
theorem dX10_costNow_98 : decode cX10_costNow 98 = .ok (.goto 16, 3) := by decide +kernel
theorem dX10_costNow_101 : decode cX10_costNow 101 = .ok (.iload 4, 2) := by decide +kernel
theorem dX10_costNow_103 : decode cX10_costNow 103 = .ok (.ifCond .ge 7, 3) := by decide +kernel
theorem dX10_costNow_106 : decode cX10_costNow 106 = .ok (.iconst 0, 1) := by decide +kernel
theorem dX10_costNow_107 : decode cX10_costNow 107 = .ok (.goto 5, 3) := by decide +kernel
theorem dX10_costNow_110 : decode cX10_costNow 110 = .ok (.iload 4, 2) := by decide +kernel
theorem dX10_costNow_112 : decode cX10_costNow 112 = .ok (.istore 4, 2) := by decide +kernel
theorem dX10_costNow_114 : decode cX10_costNow 114 = .ok (.iload 4, 2) := by decide +kernel
theorem dX10_costNow_116 : decode cX10_costNow 116 = .ok (.aload_n 0, 1) := by decide +kernel
theorem dX10_costNow_117 : decode cX10_costNow 117 = .ok (.getfield 13, 3) := by decide +kernel
theorem dX10_costNow_120 : decode cX10_costNow 120 = .ok (.iconst 1, 1) := by decide +kernel
theorem dX10_costNow_121 : decode cX10_costNow 121 = .ok (.iaload, 1) := by decide +kernel
theorem dX10_costNow_122 : decode cX10_costNow 122 = .ok (.iadd, 1) := by decide +kernel
theorem dX10_costNow_123 : decode cX10_costNow 123 = .ok (.ireturn, 1) := by decide +kernel
theorem dX10_costOf_0 : decode cX10_costOf 0 = .ok (.aload_n 0, 1) := by decide +kernel
theorem dX10_costOf_1 : decode cX10_costOf 1 = .ok (.invokevirtual 147, 3) := by decide +kernel
theorem dX10_costOf_4 : decode cX10_costOf 4 = .ok (.iload_n 1, 1) := by decide +kernel
theorem dX10_costOf_5 : decode cX10_costOf 5 = .ok (.iconst 0, 1) := by decide +kernel
theorem dX10_costOf_6 : decode cX10_costOf 6 = .ok (.aload_n 0, 1) := by decide +kernel
theorem dX10_costOf_7 : decode cX10_costOf 7 = .ok (.getfield 109, 3) := by decide +kernel
theorem dX10_costOf_10 : decode cX10_costOf 10 = .ok (.invokestatic 77, 3) := by decide +kernel
theorem dX10_costOf_13 : decode cX10_costOf 13 = .ok (.ifCond .eq 15, 3) := by decide +kernel
theorem dX10_costOf_16 : decode cX10_costOf 16 = .ok (.iload_n 2, 1) := by decide +kernel
theorem dX10_costOf_17 : decode cX10_costOf 17 = .ok (.iconst 0, 1) := by decide +kernel
theorem dX10_costOf_18 : decode cX10_costOf 18 = .ok (.aload_n 0, 1) := by decide +kernel
theorem dX10_costOf_19 : decode cX10_costOf 19 = .ok (.getfield 109, 3) := by decide +kernel
theorem dX10_costOf_22 : decode cX10_costOf 22 = .ok (.invokestatic 77, 3) := by decide +kernel
theorem dX10_costOf_25 : decode cX10_costOf 25 = .ok (.ifCond .ne 6, 3) := by decide +kernel
theorem dX10_costOf_28 : decode cX10_costOf 28 = .ok (.bipush (-2), 2) := by decide +kernel
theorem dX10_costOf_30 : decode cX10_costOf 30 = .ok (.ireturn, 1) := by decide +kernel
theorem dX10_costOf_31 : decode cX10_costOf 31 = .ok (.iload_n 2, 1) := by decide +kernel
theorem dX10_costOf_32 : decode cX10_costOf 32 = .ok (.iload_n 1, 1) := by decide +kernel
theorem dX10_costOf_33 : decode cX10_costOf 33 = .ok (.if_icmp .le 12, 3) := by decide +kernel
theorem dX10_costOf_36 : decode cX10_costOf 36 = .ok (.aload_n 0, 1) := by decide +kernel
theorem dX10_costOf_37 : decode cX10_costOf 37 = .ok (.iload_n 1, 1) := by decide +kernel
theorem dX10_costOf_38 : decode cX10_costOf 38 = .ok (.iload_n 2, 1) := by decide +kernel
theorem dX10_costOf_39 : decode cX10_costOf 39 = .ok (.invokevirtual 213, 3) := by decide +kernel
theorem dX10_costOf_42 : decode cX10_costOf 42 = .ok (.goto 5, 3) := by decide +kernel
theorem dX10_costOf_45 : decode cX10_costOf 45 = .ok (.bipush (-3), 2) := by decide +kernel
theorem dX10_costOf_47 : decode cX10_costOf 47 = .ok (.ireturn, 1) := by decide +kernel
theorem dX10_cost_0 : decode cX10_cost 0 = .ok (.aload_n 0, 1) := by decide +kernel
theorem dX10_cost_1 : decode cX10_cost 1 = .ok (.iload_n 1, 1) := by decide +kernel
theorem dX10_cost_2 : decode cX10_cost 2 = .ok (.iload_n 2, 1) := by decide +kernel
theorem dX10_cost_3 : decode cX10_cost 3 = .ok (.invokevirtual 216, 3) := by decide +kernel
theorem dX10_cost_6 : decode cX10_cost 6 = .ok (.ireturn, 1) := by decide +kernel
theorem dX10_placeOf_0 : decode cX10_placeOf 0 = .ok (.aload_n 0, 1) := by decide +kernel
theorem dX10_placeOf_1 : decode cX10_placeOf 1 = .ok (.getfield 144, 3) := by decide +kernel
theorem dX10_placeOf_4 : decode cX10_placeOf 4 = .ok (.iconst (-1), 1) := by decide +kernel
theorem dX10_placeOf_5 : decode cX10_placeOf 5 = .ok (.if_icmp .eq 17, 3) := by decide +kernel
theorem dX10_placeOf_8 : decode cX10_placeOf 8 = .ok (.iload_n 1, 1) := by decide +kernel
theorem dX10_placeOf_9 : decode cX10_placeOf 9 = .ok (.aload_n 0, 1) := by decide +kernel
theorem dX10_placeOf_10 : decode cX10_placeOf 10 = .ok (.getfield 144, 3) := by decide +kernel
theorem dX10_placeOf_13 : decode cX10_placeOf 13 = .ok (.if_icmp .le 9, 3) := by decide +kernel
theorem dX10_placeOf_16 : decode cX10_placeOf 16 = .ok (.iload_n 1, 1) := by decide +kernel
theorem dX10_placeOf_17 : decode cX10_placeOf 17 = .ok (.iconst 1, 1) := by decide +kernel
theorem dX10_placeOf_18 : decode cX10_placeOf 18 = .ok (.iadd, 1) := by decide +kernel
theorem dX10_placeOf_19 : decode cX10_placeOf 19 = .ok (.goto 4, 3) := by decide +kernel
theorem dX10_placeOf_22 : decode cX10_placeOf 22 = .ok (.iload_n 1, 1) := by decide +kernel
theorem dX10_placeOf_23 : decode cX10_placeOf 23 = .ok (.ireturn, 1) := by decide +kernel
theorem dX10_parts_0 : decode cX10_parts 0 = .ok (.aload_n 0, 1) := by decide +kernel
theorem dX10_parts_1 : decode cX10_parts 1 = .ok (.aload_n 0, 1) := by decide +kernel
theorem dX10_parts_2 : decode cX10_parts 2 = .ok (.getfield 144, 3) := by decide +kernel
theorem dX10_parts_5 : decode cX10_parts 5 = .ok (.iconst (-1), 1) := by decide +kernel
theorem dX10_parts_6 : decode cX10_parts 6 = .ok (.if_icmp .ne 10, 3) := by decide +kernel
theorem dX10_parts_9 : decode cX10_parts 9 = .ok (.aload_n 0, 1) := by decide +kernel
theorem dX10_parts_10 : decode cX10_parts 10 = .ok (.getfield 109, 3) := by decide +kernel
theorem dX10_parts_13 : decode cX10_parts 13 = .ok (.goto 9, 3) := by decide +kernel
theorem dX10_parts_16 : decode cX10_parts 16 = .ok (.aload_n 0, 1) := by decide +kernel
theorem dX10_parts_17 : decode cX10_parts 17 = .ok (.getfield 109, 3) := by decide +kernel
theorem dX10_parts_20 : decode cX10_parts 20 = .ok (.iconst 1, 1) := by decide +kernel
theorem dX10_parts_21 : decode cX10_parts 21 = .ok (.isub, 1) := by decide +kernel
theorem dX10_parts_22 : decode cX10_parts 22 = .ok (.putfield 219, 3) := by decide +kernel
theorem dX10_parts_25 : decode cX10_parts 25 = .ok (.iconst 0, 1) := by decide +kernel
theorem dX10_parts_26 : decode cX10_parts 26 = .ok (.istore_n 1, 1) := by decide +kernel
theorem dX10_parts_27 : decode cX10_parts 27 = .ok (.iload_n 1, 1) := by decide +kernel
theorem dX10_parts_28 : decode cX10_parts 28 = .ok (.aload_n 0, 1) := by decide +kernel
theorem dX10_parts_29 : decode cX10_parts 29 = .ok (.getfield 219, 3) := by decide +kernel
theorem dX10_parts_32 : decode cX10_parts 32 = .ok (.if_icmp .ge 52, 3) := by decide +kernel
theorem dX10_parts_35 : decode cX10_parts 35 = .ok (.iload_n 1, 1) := by decide +kernel
theorem dX10_parts_36 : decode cX10_parts 36 = .ok (.iconst 1, 1) := by decide +kernel
theorem dX10_parts_37 : decode cX10_parts 37 = .ok (.iadd, 1) := by decide +kernel
theorem dX10_parts_38 : decode cX10_parts 38 = .ok (.istore_n 2, 1) := by decide +kernel
theorem dX10_parts_39 : decode cX10_parts 39 = .ok (.iload_n 2, 1) := by decide +kernel
theorem dX10_parts_40 : decode cX10_parts 40 = .ok (.aload_n 0, 1) := by decide +kernel
theorem dX10_parts_41 : decode cX10_parts 41 = .ok (.getfield 219, 3) := by decide +kernel
theorem dX10_parts_44 : decode cX10_parts 44 = .ok (.if_icmp .gt 34, 3) := by decide +kernel
theorem dX10_parts_47 : decode cX10_parts 47 = .ok (.aload_n 0, 1) := by decide +kernel
theorem dX10_parts_48 : decode cX10_parts 48 = .ok (.getfield 52, 3) := by decide +kernel
theorem dX10_parts_51 : decode cX10_parts 51 = .ok (.bipush 13, 2) := by decide +kernel
theorem dX10_parts_53 : decode cX10_parts 53 = .ok (.iload_n 1, 1) := by decide +kernel
theorem dX10_parts_54 : decode cX10_parts 54 = .ok (.imul, 1) := by decide +kernel
theorem dX10_parts_55 : decode cX10_parts 55 = .ok (.iload_n 2, 1) := by decide +kernel
theorem dX10_parts_56 : decode cX10_parts 56 = .ok (.iadd, 1) := by decide +kernel
theorem dX10_parts_57 : decode cX10_parts 57 = .ok (.aload_n 0, 1) := by decide +kernel
theorem dX10_parts_58 : decode cX10_parts 58 = .ok (.aload_n 0, 1) := by decide +kernel
theorem dX10_parts_59 : decode cX10_parts 59 = .ok (.iload_n 1, 1) := by decide +kernel
theorem dX10_parts_60 : decode cX10_parts 60 = .ok (.invokevirtual 222, 3) := by decide +kernel
theorem dX10_parts_63 : decode cX10_parts 63 = .ok (.aload_n 0, 1) := by decide +kernel
theorem dX10_parts_64 : decode cX10_parts 64 = .ok (.iload_n 2, 1) := by decide +kernel
theorem dX10_parts_65 : decode cX10_parts 65 = .ok (.invokevirtual 222, 3) := by decide +kernel
theorem dX10_parts_68 : decode cX10_parts 68 = .ok (.invokevirtual 213, 3) := by decide +kernel
theorem dX10_parts_71 : decode cX10_parts 71 = .ok (.iastore, 1) := by decide +kernel
theorem dX10_parts_72 : decode cX10_parts 72 = .ok (.iinc 2 1, 3) := by decide +kernel
theorem dX10_parts_75 : decode cX10_parts 75 = .ok (.goto (-36), 3) := by decide +kernel
theorem dX10_parts_78 : decode cX10_parts 78 = .ok (.iinc 1 1, 3) := by decide +kernel
theorem dX10_parts_81 : decode cX10_parts 81 = .ok (.goto (-54), 3) := by decide +kernel
theorem dX10_parts_84 : decode cX10_parts 84 = .ok (.iconst 0, 1) := by decide +kernel
theorem dX10_parts_85 : decode cX10_parts 85 = .ok (.istore_n 1, 1) := by decide +kernel
theorem dX10_parts_86 : decode cX10_parts 86 = .ok (.iload_n 1, 1) := by decide +kernel
theorem dX10_parts_87 : decode cX10_parts 87 = .ok (.bipush 9, 2) := by decide +kernel
theorem dX10_parts_89 : decode cX10_parts 89 = .ok (.if_icmp .ge 171, 3) := by decide +kernel
theorem dX10_parts_92 : decode cX10_parts 92 = .ok (.iconst 0, 1) := by decide +kernel
theorem dX10_parts_93 : decode cX10_parts 93 = .ok (.istore_n 2, 1) := by decide +kernel
theorem dX10_parts_94 : decode cX10_parts 94 = .ok (.iload_n 2, 1) := by decide +kernel
theorem dX10_parts_95 : decode cX10_parts 95 = .ok (.aload_n 0, 1) := by decide +kernel
theorem dX10_parts_96 : decode cX10_parts 96 = .ok (.getfield 219, 3) := by decide +kernel
theorem dX10_parts_99 : decode cX10_parts 99 = .ok (.if_icmp .gt 155, 3) := by decide +kernel
theorem dX10_parts_102 : decode cX10_parts 102 = .ok (.iconst (-1), 1) := by decide +kernel
theorem dX10_parts_103 : decode cX10_parts 103 = .ok (.istore_n 3, 1) := by decide +kernel
theorem dX10_parts_104 : decode cX10_parts 104 = .ok (.iload_n 1, 1) := by decide +kernel
theorem dX10_parts_105 : decode cX10_parts 105 = .ok (.ifCond .ne 11, 3) := by decide +kernel
theorem dX10_parts_108 : decode cX10_parts 108 = .ok (.iload_n 2, 1) := by decide +kernel
theorem dX10_parts_109 : decode cX10_parts 109 = .ok (.ifCond .ne 7, 3) := by decide +kernel
theorem dX10_parts_112 : decode cX10_parts 112 = .ok (.iconst 0, 1) := by decide +kernel
theorem dX10_parts_113 : decode cX10_parts 113 = .ok (.goto 4, 3) := by decide +kernel
theorem dX10_parts_116 : decode cX10_parts 116 = .ok (.iconst (-1), 1) := by decide +kernel
theorem dX10_parts_117 : decode cX10_parts 117 = .ok (.istore 4, 2) := by decide +kernel
theorem dX10_parts_119 : decode cX10_parts 119 = .ok (.iconst 0, 1) := by decide +kernel
theorem dX10_parts_120 : decode cX10_parts 120 = .ok (.istore 5, 2) := by decide +kernel
theorem dX10_parts_122 : decode cX10_parts 122 = .ok (.iload 5, 2) := by decide +kernel
theorem dX10_parts_124 : decode cX10_parts 124 = .ok (.iload_n 2, 1) := by decide +kernel
theorem dX10_parts_125 : decode cX10_parts 125 = .ok (.if_icmp .ge 98, 3) := by decide +kernel
theorem dX10_parts_128 : decode cX10_parts 128 = .ok (.iload_n 1, 1) := by decide +kernel
theorem dX10_parts_129 : decode cX10_parts 129 = .ok (.ifCond .le 94, 3) := by decide +kernel
theorem dX10_parts_132 : decode cX10_parts 132 = .ok (.aload_n 0, 1) := by decide +kernel
theorem dX10_parts_133 : decode cX10_parts 133 = .ok (.getfield 55, 3) := by decide +kernel
theorem dX10_parts_136 : decode cX10_parts 136 = .ok (.bipush 13, 2) := by decide +kernel
theorem dX10_parts_138 : decode cX10_parts 138 = .ok (.iload_n 1, 1) := by decide +kernel
theorem dX10_parts_139 : decode cX10_parts 139 = .ok (.iconst 1, 1) := by decide +kernel
theorem dX10_parts_140 : decode cX10_parts 140 = .ok (.isub, 1) := by decide +kernel
theorem dX10_parts_141 : decode cX10_parts 141 = .ok (.imul, 1) := by decide +kernel
theorem dX10_parts_142 : decode cX10_parts 142 = .ok (.iload 5, 2) := by decide +kernel
theorem dX10_parts_144 : decode cX10_parts 144 = .ok (.iadd, 1) := by decide +kernel
theorem dX10_parts_145 : decode cX10_parts 145 = .ok (.iaload, 1) := by decide +kernel
theorem dX10_parts_146 : decode cX10_parts 146 = .ok (.istore 6, 2) := by decide +kernel
theorem dX10_parts_148 : decode cX10_parts 148 = .ok (.iload 6, 2) := by decide +kernel
theorem dX10_parts_150 : decode cX10_parts 150 = .ok (.aload_n 0, 1) := by decide +kernel
theorem dX10_parts_151 : decode cX10_parts 151 = .ok (.getfield 52, 3) := by decide +kernel
theorem dX10_parts_154 : decode cX10_parts 154 = .ok (.bipush 13, 2) := by decide +kernel
theorem dX10_parts_156 : decode cX10_parts 156 = .ok (.iload 5, 2) := by decide +kernel
theorem dX10_parts_158 : decode cX10_parts 158 = .ok (.imul, 1) := by decide +kernel
theorem dX10_parts_159 : decode cX10_parts 159 = .ok (.iload_n 2, 1) := by decide +kernel
theorem dX10_parts_160 : decode cX10_parts 160 = .ok (.iadd, 1) := by decide +kernel
theorem dX10_parts_161 : decode cX10_parts 161 = .ok (.iaload, 1) := by decide +kernel
theorem dX10_parts_162 : decode cX10_parts 162 = .ok (.iadd, 1) := by decide +kernel
theorem dX10_parts_163 : decode cX10_parts 163 = .ok (.istore 7, 2) := by decide +kernel
theorem dX10_parts_165 : decode cX10_parts 165 = .ok (.iload 6, 2) := by decide +kernel
theorem dX10_parts_167 : decode cX10_parts 167 = .ok (.iconst (-1), 1) := by decide +kernel
theorem dX10_parts_168 : decode cX10_parts 168 = .ok (.if_icmp .eq 20, 3) := by decide +kernel
theorem dX10_parts_171 : decode cX10_parts 171 = .ok (.iload 4, 2) := by decide +kernel
theorem dX10_parts_173 : decode cX10_parts 173 = .ok (.iconst (-1), 1) := by decide +kernel
theorem dX10_parts_174 : decode cX10_parts 174 = .ok (.if_icmp .eq 10, 3) := by decide +kernel
theorem dX10_parts_177 : decode cX10_parts 177 = .ok (.iload 7, 2) := by decide +kernel
theorem dX10_parts_179 : decode cX10_parts 179 = .ok (.iload 4, 2) := by decide +kernel
theorem dX10_parts_181 : decode cX10_parts 181 = .ok (.if_icmp .ge 7, 3) := by decide +kernel
theorem dX10_parts_184 : decode cX10_parts 184 = .ok (.iconst 1, 1) := by decide +kernel
theorem dX10_parts_185 : decode cX10_parts 185 = .ok (.goto 4, 3) := by decide +kernel
theorem dX10_parts_188 : decode cX10_parts 188 = .ok (.iconst 0, 1) := by decide +kernel
theorem dX10_parts_189 : decode cX10_parts 189 = .ok (.istore 8, 2) := by decide +kernel
theorem dX10_parts_191 : decode cX10_parts 191 = .ok (.iload 8, 2) := by decide +kernel
theorem dX10_parts_193 : decode cX10_parts 193 = .ok (.ifCond .eq 8, 3) := by decide +kernel
theorem dX10_parts_196 : decode cX10_parts 196 = .ok (.iload 5, 2) := by decide +kernel
theorem dX10_parts_198 : decode cX10_parts 198 = .ok (.goto 4, 3) := by decide +kernel
theorem dX10_parts_201 : decode cX10_parts 201 = .ok (.iload_n 3, 1) := by decide +kernel
theorem dX10_parts_202 : decode cX10_parts 202 = .ok (.istore_n 3, 1) := by decide +kernel
theorem dX10_parts_203 : decode cX10_parts 203 = .ok (.iload 8, 2) := by decide +kernel
theorem dX10_parts_205 : decode cX10_parts 205 = .ok (.ifCond .eq 8, 3) := by decide +kernel
theorem dX10_parts_208 : decode cX10_parts 208 = .ok (.iload 7, 2) := by decide +kernel
theorem dX10_parts_210 : decode cX10_parts 210 = .ok (.goto 5, 3) := by decide +kernel
theorem dX10_parts_213 : decode cX10_parts 213 = .ok (.iload 4, 2) := by decide +kernel
theorem dX10_parts_215 : decode cX10_parts 215 = .ok (.istore 4, 2) := by decide +kernel
theorem dX10_parts_217 : decode cX10_parts 217 = .ok (.iinc 5 1, 3) := by decide +kernel
theorem dX10_parts_220 : decode cX10_parts 220 = .ok (.goto (-98), 3) := by decide +kernel
theorem dX10_parts_223 : decode cX10_parts 223 = .ok (.aload_n 0, 1) := by decide +kernel
theorem dX10_parts_224 : decode cX10_parts 224 = .ok (.getfield 55, 3) := by decide +kernel
theorem dX10_parts_227 : decode cX10_parts 227 = .ok (.bipush 13, 2) := by decide +kernel
theorem dX10_parts_229 : decode cX10_parts 229 = .ok (.iload_n 1, 1) := by decide +kernel
theorem dX10_parts_230 : decode cX10_parts 230 = .ok (.imul, 1) := by decide +kernel
theorem dX10_parts_231 : decode cX10_parts 231 = .ok (.iload_n 2, 1) := by decide +kernel
theorem dX10_parts_232 : decode cX10_parts 232 = .ok (.iadd, 1) := by decide +kernel
theorem dX10_parts_233 : decode cX10_parts 233 = .ok (.iload 4, 2) := by decide +kernel
theorem dX10_parts_235 : decode cX10_parts 235 = .ok (.iastore, 1) := by decide +kernel
theorem dX10_parts_236 : decode cX10_parts 236 = .ok (.aload_n 0, 1) := by decide +kernel
theorem dX10_parts_237 : decode cX10_parts 237 = .ok (.getfield 58, 3) := by decide +kernel
theorem dX10_parts_240 : decode cX10_parts 240 = .ok (.bipush 13, 2) := by decide +kernel
theorem dX10_parts_242 : decode cX10_parts 242 = .ok (.iload_n 1, 1) := by decide +kernel
theorem dX10_parts_243 : decode cX10_parts 243 = .ok (.imul, 1) := by decide +kernel
theorem dX10_parts_244 : decode cX10_parts 244 = .ok (.iload_n 2, 1) := by decide +kernel
theorem dX10_parts_245 : decode cX10_parts 245 = .ok (.iadd, 1) := by decide +kernel
theorem dX10_parts_246 : decode cX10_parts 246 = .ok (.iload_n 3, 1) := by decide +kernel
theorem dX10_parts_247 : decode cX10_parts 247 = .ok (.iastore, 1) := by decide +kernel
theorem dX10_parts_248 : decode cX10_parts 248 = .ok (.iinc 2 1, 3) := by decide +kernel
theorem dX10_parts_251 : decode cX10_parts 251 = .ok (.goto (-157), 3) := by decide +kernel
theorem dX10_parts_254 : decode cX10_parts 254 = .ok (.iinc 1 1, 3) := by decide +kernel
theorem dX10_parts_257 : decode cX10_parts 257 = .ok (.goto (-171), 3) := by decide +kernel
theorem dX10_parts_260 : decode cX10_parts 260 = .ok (.return_, 1) := by decide +kernel
theorem dX10_totalNow_0 : decode cX10_totalNow 0 = .ok (.aload_n 0, 1) := by decide +kernel
theorem dX10_totalNow_1 : decode cX10_totalNow 1 = .ok (.getfield 55, 3) := by decide +kernel
theorem dX10_totalNow_4 : decode cX10_totalNow 4 = .ok (.bipush 13, 2) := by decide +kernel
theorem dX10_totalNow_6 : decode cX10_totalNow 6 = .ok (.iload_n 1, 1) := by decide +kernel
theorem dX10_totalNow_7 : decode cX10_totalNow 7 = .ok (.imul, 1) := by decide +kernel
theorem dX10_totalNow_8 : decode cX10_totalNow 8 = .ok (.aload_n 0, 1) := by decide +kernel
theorem dX10_totalNow_9 : decode cX10_totalNow 9 = .ok (.getfield 219, 3) := by decide +kernel
theorem dX10_totalNow_12 : decode cX10_totalNow 12 = .ok (.iadd, 1) := by decide +kernel
theorem dX10_totalNow_13 : decode cX10_totalNow 13 = .ok (.iaload, 1) := by decide +kernel
theorem dX10_totalNow_14 : decode cX10_totalNow 14 = .ok (.ireturn, 1) := by decide +kernel
theorem dX10_partsTold_0 : decode cX10_partsTold 0 = .ok (.aload_n 0, 1) := by decide +kernel
theorem dX10_partsTold_1 : decode cX10_partsTold 1 = .ok (.invokevirtual 147, 3) := by decide +kernel
theorem dX10_partsTold_4 : decode cX10_partsTold 4 = .ok (.aload_n 0, 1) := by decide +kernel
theorem dX10_partsTold_5 : decode cX10_partsTold 5 = .ok (.invokevirtual 225, 3) := by decide +kernel
theorem dX10_partsTold_8 : decode cX10_partsTold 8 = .ok (.return_, 1) := by decide +kernel
theorem dX10_isParts_0 : decode cX10_isParts 0 = .ok (.iload_n 0, 1) := by decide +kernel
theorem dX10_isParts_1 : decode cX10_isParts 1 = .ok (.iconst 1, 1) := by decide +kernel
theorem dX10_isParts_2 : decode cX10_isParts 2 = .ok (.bipush 8, 2) := by decide +kernel
theorem dX10_isParts_4 : decode cX10_isParts 4 = .ok (.invokestatic 77, 3) := by decide +kernel
theorem dX10_isParts_7 : decode cX10_isParts 7 = .ok (.ireturn, 1) := by decide +kernel
theorem dX10_bestOf_0 : decode cX10_bestOf 0 = .ok (.aload_n 0, 1) := by decide +kernel
theorem dX10_bestOf_1 : decode cX10_bestOf 1 = .ok (.invokevirtual 228, 3) := by decide +kernel
theorem dX10_bestOf_4 : decode cX10_bestOf 4 = .ok (.aload_n 0, 1) := by decide +kernel
theorem dX10_bestOf_5 : decode cX10_bestOf 5 = .ok (.iload_n 1, 1) := by decide +kernel
theorem dX10_bestOf_6 : decode cX10_bestOf 6 = .ok (.invokevirtual 231, 3) := by decide +kernel
theorem dX10_bestOf_9 : decode cX10_bestOf 9 = .ok (.ireturn, 1) := by decide +kernel
theorem dX10_best_0 : decode cX10_best 0 = .ok (.iload_n 1, 1) := by decide +kernel
theorem dX10_best_1 : decode cX10_best 1 = .ok (.invokestatic 234, 3) := by decide +kernel
theorem dX10_best_4 : decode cX10_best 4 = .ok (.ifCond .eq 11, 3) := by decide +kernel
theorem dX10_best_7 : decode cX10_best 7 = .ok (.aload_n 0, 1) := by decide +kernel
theorem dX10_best_8 : decode cX10_best 8 = .ok (.iload_n 1, 1) := by decide +kernel
theorem dX10_best_9 : decode cX10_best 9 = .ok (.invokevirtual 237, 3) := by decide +kernel
theorem dX10_best_12 : decode cX10_best 12 = .ok (.goto 5, 3) := by decide +kernel
theorem dX10_best_15 : decode cX10_best 15 = .ok (.bipush (-2), 2) := by decide +kernel
theorem dX10_best_17 : decode cX10_best 17 = .ok (.ireturn, 1) := by decide +kernel
theorem dX10_seamNow_0 : decode cX10_seamNow 0 = .ok (.aload_n 0, 1) := by decide +kernel
theorem dX10_seamNow_1 : decode cX10_seamNow 1 = .ok (.getfield 219, 3) := by decide +kernel
theorem dX10_seamNow_4 : decode cX10_seamNow 4 = .ok (.istore_n 3, 1) := by decide +kernel
theorem dX10_seamNow_5 : decode cX10_seamNow 5 = .ok (.iload_n 1, 1) := by decide +kernel
theorem dX10_seamNow_6 : decode cX10_seamNow 6 = .ok (.istore 4, 2) := by decide +kernel
theorem dX10_seamNow_8 : decode cX10_seamNow 8 = .ok (.iload 4, 2) := by decide +kernel
theorem dX10_seamNow_10 : decode cX10_seamNow 10 = .ok (.iload_n 2, 1) := by decide +kernel
theorem dX10_seamNow_11 : decode cX10_seamNow 11 = .ok (.if_icmp .le 22, 3) := by decide +kernel
theorem dX10_seamNow_14 : decode cX10_seamNow 14 = .ok (.aload_n 0, 1) := by decide +kernel
theorem dX10_seamNow_15 : decode cX10_seamNow 15 = .ok (.getfield 58, 3) := by decide +kernel
theorem dX10_seamNow_18 : decode cX10_seamNow 18 = .ok (.bipush 13, 2) := by decide +kernel
theorem dX10_seamNow_20 : decode cX10_seamNow 20 = .ok (.iload 4, 2) := by decide +kernel
theorem dX10_seamNow_22 : decode cX10_seamNow 22 = .ok (.imul, 1) := by decide +kernel
theorem dX10_seamNow_23 : decode cX10_seamNow 23 = .ok (.iload_n 3, 1) := by decide +kernel
theorem dX10_seamNow_24 : decode cX10_seamNow 24 = .ok (.iadd, 1) := by decide +kernel
theorem dX10_seamNow_25 : decode cX10_seamNow 25 = .ok (.iaload, 1) := by decide +kernel
theorem dX10_seamNow_26 : decode cX10_seamNow 26 = .ok (.istore_n 3, 1) := by decide +kernel
theorem dX10_seamNow_27 : decode cX10_seamNow 27 = .ok (.iinc 4 (-1), 3) := by decide +kernel
theorem dX10_seamNow_30 : decode cX10_seamNow 30 = .ok (.goto (-22), 3) := by decide +kernel
theorem dX10_seamNow_33 : decode cX10_seamNow 33 = .ok (.iload_n 3, 1) := by decide +kernel
theorem dX10_seamNow_34 : decode cX10_seamNow 34 = .ok (.ireturn, 1) := by decide +kernel
theorem dX10_seamOf_0 : decode cX10_seamOf 0 = .ok (.aload_n 0, 1) := by decide +kernel
theorem dX10_seamOf_1 : decode cX10_seamOf 1 = .ok (.invokevirtual 228, 3) := by decide +kernel
theorem dX10_seamOf_4 : decode cX10_seamOf 4 = .ok (.aload_n 0, 1) := by decide +kernel
theorem dX10_seamOf_5 : decode cX10_seamOf 5 = .ok (.iload_n 1, 1) := by decide +kernel
theorem dX10_seamOf_6 : decode cX10_seamOf 6 = .ok (.invokevirtual 231, 3) := by decide +kernel
theorem dX10_seamOf_9 : decode cX10_seamOf 9 = .ok (.iconst (-1), 1) := by decide +kernel
theorem dX10_seamOf_10 : decode cX10_seamOf 10 = .ok (.if_icmp .eq 8, 3) := by decide +kernel
theorem dX10_seamOf_13 : decode cX10_seamOf 13 = .ok (.iload_n 2, 1) := by decide +kernel
theorem dX10_seamOf_14 : decode cX10_seamOf 14 = .ok (.iload_n 1, 1) := by decide +kernel
theorem dX10_seamOf_15 : decode cX10_seamOf 15 = .ok (.if_icmp .lt 7, 3) := by decide +kernel
theorem dX10_seamOf_18 : decode cX10_seamOf 18 = .ok (.iconst (-1), 1) := by decide +kernel
theorem dX10_seamOf_19 : decode cX10_seamOf 19 = .ok (.goto 9, 3) := by decide +kernel
theorem dX10_seamOf_22 : decode cX10_seamOf 22 = .ok (.aload_n 0, 1) := by decide +kernel
theorem dX10_seamOf_23 : decode cX10_seamOf 23 = .ok (.iload_n 1, 1) := by decide +kernel
theorem dX10_seamOf_24 : decode cX10_seamOf 24 = .ok (.iload_n 2, 1) := by decide +kernel
theorem dX10_seamOf_25 : decode cX10_seamOf 25 = .ok (.invokevirtual 240, 3) := by decide +kernel
theorem dX10_seamOf_28 : decode cX10_seamOf 28 = .ok (.ireturn, 1) := by decide +kernel
theorem dX10_seam_0 : decode cX10_seam 0 = .ok (.iload_n 1, 1) := by decide +kernel
theorem dX10_seam_1 : decode cX10_seam 1 = .ok (.invokestatic 234, 3) := by decide +kernel
theorem dX10_seam_4 : decode cX10_seam 4 = .ok (.ifCond .eq 22, 3) := by decide +kernel
theorem dX10_seam_7 : decode cX10_seam 7 = .ok (.iload_n 2, 1) := by decide +kernel
theorem dX10_seam_8 : decode cX10_seam 8 = .ok (.iconst 0, 1) := by decide +kernel
theorem dX10_seam_9 : decode cX10_seam 9 = .ok (.bipush 7, 2) := by decide +kernel
theorem dX10_seam_11 : decode cX10_seam 11 = .ok (.invokestatic 77, 3) := by decide +kernel
theorem dX10_seam_14 : decode cX10_seam 14 = .ok (.ifCond .eq 12, 3) := by decide +kernel
theorem dX10_seam_17 : decode cX10_seam 17 = .ok (.aload_n 0, 1) := by decide +kernel
theorem dX10_seam_18 : decode cX10_seam 18 = .ok (.iload_n 1, 1) := by decide +kernel
theorem dX10_seam_19 : decode cX10_seam 19 = .ok (.iload_n 2, 1) := by decide +kernel
theorem dX10_seam_20 : decode cX10_seam 20 = .ok (.invokevirtual 243, 3) := by decide +kernel
theorem dX10_seam_23 : decode cX10_seam 23 = .ok (.goto 5, 3) := by decide +kernel
theorem dX10_seam_26 : decode cX10_seam 26 = .ok (.bipush (-2), 2) := by decide +kernel
theorem dX10_seam_28 : decode cX10_seam 28 = .ok (.ireturn, 1) := by decide +kernel
theorem dX10_bentOf_0 : decode cX10_bentOf 0 = .ok (.aload_n 0, 1) := by decide +kernel
theorem dX10_bentOf_1 : decode cX10_bentOf 1 = .ok (.invokevirtual 228, 3) := by decide +kernel
theorem dX10_bentOf_4 : decode cX10_bentOf 4 = .ok (.iconst 0, 1) := by decide +kernel
theorem dX10_bentOf_5 : decode cX10_bentOf 5 = .ok (.istore_n 1, 1) := by decide +kernel
theorem dX10_bentOf_6 : decode cX10_bentOf 6 = .ok (.iconst 2, 1) := by decide +kernel
theorem dX10_bentOf_7 : decode cX10_bentOf 7 = .ok (.istore_n 2, 1) := by decide +kernel
theorem dX10_bentOf_8 : decode cX10_bentOf 8 = .ok (.iload_n 2, 1) := by decide +kernel
theorem dX10_bentOf_9 : decode cX10_bentOf 9 = .ok (.bipush 8, 2) := by decide +kernel
theorem dX10_bentOf_11 : decode cX10_bentOf 11 = .ok (.if_icmp .ge 74, 3) := by decide +kernel
theorem dX10_bentOf_14 : decode cX10_bentOf 14 = .ok (.aload_n 0, 1) := by decide +kernel
theorem dX10_bentOf_15 : decode cX10_bentOf 15 = .ok (.iload_n 2, 1) := by decide +kernel
theorem dX10_bentOf_16 : decode cX10_bentOf 16 = .ok (.invokevirtual 231, 3) := by decide +kernel
theorem dX10_bentOf_19 : decode cX10_bentOf 19 = .ok (.iconst (-1), 1) := by decide +kernel
theorem dX10_bentOf_20 : decode cX10_bentOf 20 = .ok (.if_icmp .eq 18, 3) := by decide +kernel
theorem dX10_bentOf_23 : decode cX10_bentOf 23 = .ok (.aload_n 0, 1) := by decide +kernel
theorem dX10_bentOf_24 : decode cX10_bentOf 24 = .ok (.iload_n 2, 1) := by decide +kernel
theorem dX10_bentOf_25 : decode cX10_bentOf 25 = .ok (.iconst 1, 1) := by decide +kernel
theorem dX10_bentOf_26 : decode cX10_bentOf 26 = .ok (.iadd, 1) := by decide +kernel
theorem dX10_bentOf_27 : decode cX10_bentOf 27 = .ok (.invokevirtual 231, 3) := by decide +kernel
theorem dX10_bentOf_30 : decode cX10_bentOf 30 = .ok (.iconst (-1), 1) := by decide +kernel
theorem dX10_bentOf_31 : decode cX10_bentOf 31 = .ok (.if_icmp .eq 7, 3) := by decide +kernel
theorem dX10_bentOf_34 : decode cX10_bentOf 34 = .ok (.iconst 1, 1) := by decide +kernel
theorem dX10_bentOf_35 : decode cX10_bentOf 35 = .ok (.goto 4, 3) := by decide +kernel
theorem dX10_bentOf_38 : decode cX10_bentOf 38 = .ok (.iconst 0, 1) := by decide +kernel
theorem dX10_bentOf_39 : decode cX10_bentOf 39 = .ok (.istore_n 3, 1) := by decide +kernel
theorem dX10_bentOf_40 : decode cX10_bentOf 40 = .ok (.iload_n 1, 1) := by decide +kernel
theorem dX10_bentOf_41 : decode cX10_bentOf 41 = .ok (.iload_n 3, 1) := by decide +kernel
theorem dX10_bentOf_42 : decode cX10_bentOf 42 = .ok (.ifCond .eq 34, 3) := by decide +kernel
end
section
theorem dX10_bentOf_45 : decode cX10_bentOf 45 = .ok (.aload_n 0, 1) := by decide +kernel
theorem dX10_bentOf_46 : decode cX10_bentOf 46 = .ok (.iload_n 2, 1) := by decide +kernel
theorem dX10_bentOf_47 : decode cX10_bentOf 47 = .ok (.iconst 1, 1) := by decide +kernel
theorem dX10_bentOf_48 : decode cX10_bentOf 48 = .ok (.isub, 1) := by decide +kernel
theorem dX10_bentOf_49 : decode cX10_bentOf 49 = .ok (.invokevirtual 231, 3) := by decide +kernel
theorem dX10_bentOf_52 : decode cX10_bentOf 52 = .ok (.aload_n 0, 1) := by decide +kernel
theorem dX10_bentOf_53 : decode cX10_bentOf 53 = .ok (.iload_n 2, 1) := by decide +kernel
theorem dX10_bentOf_54 : decode cX10_bentOf 54 = .ok (.iconst 1, 1) := by decide +kernel
theorem dX10_bentOf_55 : decode cX10_bentOf 55 = .ok (.iadd, 1) := by decide +kernel
theorem dX10_bentOf_56 : decode cX10_bentOf 56 = .ok (.invokevirtual 231, 3) := by decide +kernel
theorem dX10_bentOf_59 : decode cX10_bentOf 59 = .ok (.iadd, 1) := by decide +kernel
theorem dX10_bentOf_60 : decode cX10_bentOf 60 = .ok (.iconst 2, 1) := by decide +kernel
theorem dX10_bentOf_61 : decode cX10_bentOf 61 = .ok (.aload_n 0, 1) := by decide +kernel
theorem dX10_bentOf_62 : decode cX10_bentOf 62 = .ok (.iload_n 2, 1) := by decide +kernel
theorem dX10_bentOf_63 : decode cX10_bentOf 63 = .ok (.invokevirtual 231, 3) := by decide +kernel
theorem dX10_bentOf_66 : decode cX10_bentOf 66 = .ok (.imul, 1) := by decide +kernel
theorem dX10_bentOf_67 : decode cX10_bentOf 67 = .ok (.if_icmp .lt 9, 3) := by decide +kernel
theorem dX10_bentOf_70 : decode cX10_bentOf 70 = .ok (.iconst 1, 1) := by decide +kernel
theorem dX10_bentOf_71 : decode cX10_bentOf 71 = .ok (.iload_n 2, 1) := by decide +kernel
theorem dX10_bentOf_72 : decode cX10_bentOf 72 = .ok (.ishl, 1) := by decide +kernel
theorem dX10_bentOf_73 : decode cX10_bentOf 73 = .ok (.goto 4, 3) := by decide +kernel
theorem dX10_bentOf_76 : decode cX10_bentOf 76 = .ok (.iconst 0, 1) := by decide +kernel
theorem dX10_bentOf_77 : decode cX10_bentOf 77 = .ok (.ior, 1) := by decide +kernel
theorem dX10_bentOf_78 : decode cX10_bentOf 78 = .ok (.istore_n 1, 1) := by decide +kernel
theorem dX10_bentOf_79 : decode cX10_bentOf 79 = .ok (.iinc 2 1, 3) := by decide +kernel
theorem dX10_bentOf_82 : decode cX10_bentOf 82 = .ok (.goto (-74), 3) := by decide +kernel
theorem dX10_bentOf_85 : decode cX10_bentOf 85 = .ok (.iload_n 1, 1) := by decide +kernel
theorem dX10_bentOf_86 : decode cX10_bentOf 86 = .ok (.ireturn, 1) := by decide +kernel
theorem dX10_bent_0 : decode cX10_bent 0 = .ok (.aload_n 0, 1) := by decide +kernel
theorem dX10_bent_1 : decode cX10_bent 1 = .ok (.invokevirtual 246, 3) := by decide +kernel
theorem dX10_bent_4 : decode cX10_bent 4 = .ok (.ireturn, 1) := by decide +kernel
theorem dX10_dropOf_0 : decode cX10_dropOf 0 = .ok (.aload_n 0, 1) := by decide +kernel
theorem dX10_dropOf_1 : decode cX10_dropOf 1 = .ok (.invokevirtual 147, 3) := by decide +kernel
theorem dX10_dropOf_4 : decode cX10_dropOf 4 = .ok (.iconst (-1), 1) := by decide +kernel
theorem dX10_dropOf_5 : decode cX10_dropOf 5 = .ok (.istore_n 3, 1) := by decide +kernel
theorem dX10_dropOf_6 : decode cX10_dropOf 6 = .ok (.iconst (-1), 1) := by decide +kernel
theorem dX10_dropOf_7 : decode cX10_dropOf 7 = .ok (.istore 4, 2) := by decide +kernel
theorem dX10_dropOf_9 : decode cX10_dropOf 9 = .ok (.iconst 0, 1) := by decide +kernel
theorem dX10_dropOf_10 : decode cX10_dropOf 10 = .ok (.istore 5, 2) := by decide +kernel
theorem dX10_dropOf_12 : decode cX10_dropOf 12 = .ok (.iload 5, 2) := by decide +kernel
theorem dX10_dropOf_14 : decode cX10_dropOf 14 = .ok (.aload_n 0, 1) := by decide +kernel
theorem dX10_dropOf_15 : decode cX10_dropOf 15 = .ok (.getfield 109, 3) := by decide +kernel
theorem dX10_dropOf_18 : decode cX10_dropOf 18 = .ok (.if_icmp .ge 77, 3) := by decide +kernel
theorem dX10_dropOf_21 : decode cX10_dropOf 21 = .ok (.aload_n 0, 1) := by decide +kernel
theorem dX10_dropOf_22 : decode cX10_dropOf 22 = .ok (.iload 5, 2) := by decide +kernel
theorem dX10_dropOf_24 : decode cX10_dropOf 24 = .ok (.putfield 144, 3) := by decide +kernel
theorem dX10_dropOf_27 : decode cX10_dropOf 27 = .ok (.aload_n 0, 1) := by decide +kernel
theorem dX10_dropOf_28 : decode cX10_dropOf 28 = .ok (.invokevirtual 225, 3) := by decide +kernel
theorem dX10_dropOf_31 : decode cX10_dropOf 31 = .ok (.aload_n 0, 1) := by decide +kernel
theorem dX10_dropOf_32 : decode cX10_dropOf 32 = .ok (.iload_n 1, 1) := by decide +kernel
theorem dX10_dropOf_33 : decode cX10_dropOf 33 = .ok (.invokevirtual 231, 3) := by decide +kernel
theorem dX10_dropOf_36 : decode cX10_dropOf 36 = .ok (.istore 6, 2) := by decide +kernel
theorem dX10_dropOf_38 : decode cX10_dropOf 38 = .ok (.iload 6, 2) := by decide +kernel
theorem dX10_dropOf_40 : decode cX10_dropOf 40 = .ok (.iconst (-1), 1) := by decide +kernel
theorem dX10_dropOf_41 : decode cX10_dropOf 41 = .ok (.if_icmp .eq 19, 3) := by decide +kernel
theorem dX10_dropOf_44 : decode cX10_dropOf 44 = .ok (.iload_n 3, 1) := by decide +kernel
theorem dX10_dropOf_45 : decode cX10_dropOf 45 = .ok (.iconst (-1), 1) := by decide +kernel
theorem dX10_dropOf_46 : decode cX10_dropOf 46 = .ok (.if_icmp .eq 10, 3) := by decide +kernel
theorem dX10_dropOf_49 : decode cX10_dropOf 49 = .ok (.iload 6, 2) := by decide +kernel
theorem dX10_dropOf_51 : decode cX10_dropOf 51 = .ok (.iload 4, 2) := by decide +kernel
theorem dX10_dropOf_53 : decode cX10_dropOf 53 = .ok (.if_icmp .ge 7, 3) := by decide +kernel
theorem dX10_dropOf_56 : decode cX10_dropOf 56 = .ok (.iconst 1, 1) := by decide +kernel
theorem dX10_dropOf_57 : decode cX10_dropOf 57 = .ok (.goto 4, 3) := by decide +kernel
theorem dX10_dropOf_60 : decode cX10_dropOf 60 = .ok (.iconst 0, 1) := by decide +kernel
theorem dX10_dropOf_61 : decode cX10_dropOf 61 = .ok (.istore 7, 2) := by decide +kernel
theorem dX10_dropOf_63 : decode cX10_dropOf 63 = .ok (.iload 7, 2) := by decide +kernel
theorem dX10_dropOf_65 : decode cX10_dropOf 65 = .ok (.ifCond .eq 8, 3) := by decide +kernel
theorem dX10_dropOf_68 : decode cX10_dropOf 68 = .ok (.iload 5, 2) := by decide +kernel
theorem dX10_dropOf_70 : decode cX10_dropOf 70 = .ok (.goto 4, 3) := by decide +kernel
theorem dX10_dropOf_73 : decode cX10_dropOf 73 = .ok (.iload_n 3, 1) := by decide +kernel
theorem dX10_dropOf_74 : decode cX10_dropOf 74 = .ok (.istore_n 3, 1) := by decide +kernel
theorem dX10_dropOf_75 : decode cX10_dropOf 75 = .ok (.iload 7, 2) := by decide +kernel
theorem dX10_dropOf_77 : decode cX10_dropOf 77 = .ok (.ifCond .eq 8, 3) := by decide +kernel
theorem dX10_dropOf_80 : decode cX10_dropOf 80 = .ok (.iload 6, 2) := by decide +kernel
theorem dX10_dropOf_82 : decode cX10_dropOf 82 = .ok (.goto 5, 3) := by decide +kernel
theorem dX10_dropOf_85 : decode cX10_dropOf 85 = .ok (.iload 4, 2) := by decide +kernel
theorem dX10_dropOf_87 : decode cX10_dropOf 87 = .ok (.istore 4, 2) := by decide +kernel
theorem dX10_dropOf_89 : decode cX10_dropOf 89 = .ok (.iinc 5 1, 3) := by decide +kernel
theorem dX10_dropOf_92 : decode cX10_dropOf 92 = .ok (.goto (-80), 3) := by decide +kernel
theorem dX10_dropOf_95 : decode cX10_dropOf 95 = .ok (.aload_n 0, 1) := by decide +kernel
theorem dX10_dropOf_96 : decode cX10_dropOf 96 = .ok (.iconst (-1), 1) := by decide +kernel
theorem dX10_dropOf_97 : decode cX10_dropOf 97 = .ok (.putfield 144, 3) := by decide +kernel
theorem dX10_dropOf_100 : decode cX10_dropOf 100 = .ok (.iload_n 2, 1) := by decide +kernel
theorem dX10_dropOf_101 : decode cX10_dropOf 101 = .ok (.ifCond .ne 7, 3) := by decide +kernel
theorem dX10_dropOf_104 : decode cX10_dropOf 104 = .ok (.iload_n 3, 1) := by decide +kernel
theorem dX10_dropOf_105 : decode cX10_dropOf 105 = .ok (.goto 5, 3) := by decide +kernel
theorem dX10_dropOf_108 : decode cX10_dropOf 108 = .ok (.iload 4, 2) := by decide +kernel
theorem dX10_dropOf_110 : decode cX10_dropOf 110 = .ok (.ireturn, 1) := by decide +kernel
theorem dX10_drop_0 : decode cX10_drop 0 = .ok (.iload_n 1, 1) := by decide +kernel
theorem dX10_drop_1 : decode cX10_drop 1 = .ok (.invokestatic 234, 3) := by decide +kernel
theorem dX10_drop_4 : decode cX10_drop 4 = .ok (.ifCond .eq 19, 3) := by decide +kernel
theorem dX10_drop_7 : decode cX10_drop 7 = .ok (.iload_n 2, 1) := by decide +kernel
theorem dX10_drop_8 : decode cX10_drop 8 = .ok (.invokestatic 207, 3) := by decide +kernel
theorem dX10_drop_11 : decode cX10_drop 11 = .ok (.ifCond .eq 12, 3) := by decide +kernel
theorem dX10_drop_14 : decode cX10_drop 14 = .ok (.aload_n 0, 1) := by decide +kernel
theorem dX10_drop_15 : decode cX10_drop 15 = .ok (.iload_n 1, 1) := by decide +kernel
theorem dX10_drop_16 : decode cX10_drop 16 = .ok (.iload_n 2, 1) := by decide +kernel
theorem dX10_drop_17 : decode cX10_drop 17 = .ok (.invokevirtual 249, 3) := by decide +kernel
theorem dX10_drop_20 : decode cX10_drop 20 = .ok (.goto 5, 3) := by decide +kernel
theorem dX10_drop_23 : decode cX10_drop 23 = .ok (.bipush (-2), 2) := by decide +kernel
theorem dX10_drop_25 : decode cX10_drop 25 = .ok (.ireturn, 1) := by decide +kernel
theorem dX10_alike_0 : decode cX10_alike 0 = .ok (.iconst 0, 1) := by decide +kernel
theorem dX10_alike_1 : decode cX10_alike 1 = .ok (.istore_n 2, 1) := by decide +kernel
theorem dX10_alike_2 : decode cX10_alike 2 = .ok (.iconst 0, 1) := by decide +kernel
theorem dX10_alike_3 : decode cX10_alike 3 = .ok (.istore_n 3, 1) := by decide +kernel
theorem dX10_alike_4 : decode cX10_alike 4 = .ok (.iload_n 3, 1) := by decide +kernel
theorem dX10_alike_5 : decode cX10_alike 5 = .ok (.aload_n 0, 1) := by decide +kernel
theorem dX10_alike_6 : decode cX10_alike 6 = .ok (.getfield 135, 3) := by decide +kernel
theorem dX10_alike_9 : decode cX10_alike 9 = .ok (.if_icmp .ge 120, 3) := by decide +kernel
theorem dX10_alike_12 : decode cX10_alike 12 = .ok (.iconst 0, 1) := by decide +kernel
theorem dX10_alike_13 : decode cX10_alike 13 = .ok (.istore 4, 2) := by decide +kernel
theorem dX10_alike_15 : decode cX10_alike 15 = .ok (.iconst 0, 1) := by decide +kernel
theorem dX10_alike_16 : decode cX10_alike 16 = .ok (.istore 5, 2) := by decide +kernel
theorem dX10_alike_18 : decode cX10_alike 18 = .ok (.iconst 0, 1) := by decide +kernel
theorem dX10_alike_19 : decode cX10_alike 19 = .ok (.istore 6, 2) := by decide +kernel
theorem dX10_alike_21 : decode cX10_alike 21 = .ok (.iload 6, 2) := by decide +kernel
theorem dX10_alike_23 : decode cX10_alike 23 = .ok (.aload_n 0, 1) := by decide +kernel
theorem dX10_alike_24 : decode cX10_alike 24 = .ok (.getfield 13, 3) := by decide +kernel
theorem dX10_alike_27 : decode cX10_alike 27 = .ok (.iconst 3, 1) := by decide +kernel
theorem dX10_alike_28 : decode cX10_alike 28 = .ok (.iaload, 1) := by decide +kernel
theorem dX10_alike_29 : decode cX10_alike 29 = .ok (.if_icmp .ge 77, 3) := by decide +kernel
theorem dX10_alike_32 : decode cX10_alike 32 = .ok (.iload 4, 2) := by decide +kernel
theorem dX10_alike_34 : decode cX10_alike 34 = .ok (.iload_n 1, 1) := by decide +kernel
theorem dX10_alike_35 : decode cX10_alike 35 = .ok (.iconst 1, 1) := by decide +kernel
theorem dX10_alike_36 : decode cX10_alike 36 = .ok (.isub, 1) := by decide +kernel
theorem dX10_alike_37 : decode cX10_alike 37 = .ok (.iload 6, 2) := by decide +kernel
theorem dX10_alike_39 : decode cX10_alike 39 = .ok (.isub, 1) := by decide +kernel
theorem dX10_alike_40 : decode cX10_alike 40 = .ok (.ifCond .lt 22, 3) := by decide +kernel
theorem dX10_alike_43 : decode cX10_alike 43 = .ok (.aload_n 0, 1) := by decide +kernel
theorem dX10_alike_44 : decode cX10_alike 44 = .ok (.getfield 37, 3) := by decide +kernel
theorem dX10_alike_47 : decode cX10_alike 47 = .ok (.bipush 110, 2) := by decide +kernel
theorem dX10_alike_49 : decode cX10_alike 49 = .ok (.iload_n 1, 1) := by decide +kernel
theorem dX10_alike_50 : decode cX10_alike 50 = .ok (.iconst 1, 1) := by decide +kernel
theorem dX10_alike_51 : decode cX10_alike 51 = .ok (.isub, 1) := by decide +kernel
theorem dX10_alike_52 : decode cX10_alike 52 = .ok (.iload 6, 2) := by decide +kernel
theorem dX10_alike_54 : decode cX10_alike 54 = .ok (.isub, 1) := by decide +kernel
theorem dX10_alike_55 : decode cX10_alike 55 = .ok (.imul, 1) := by decide +kernel
theorem dX10_alike_56 : decode cX10_alike 56 = .ok (.iload_n 3, 1) := by decide +kernel
theorem dX10_alike_57 : decode cX10_alike 57 = .ok (.iadd, 1) := by decide +kernel
theorem dX10_alike_58 : decode cX10_alike 58 = .ok (.iaload, 1) := by decide +kernel
theorem dX10_alike_59 : decode cX10_alike 59 = .ok (.goto 4, 3) := by decide +kernel
theorem dX10_alike_62 : decode cX10_alike 62 = .ok (.iconst 0, 1) := by decide +kernel
theorem dX10_alike_63 : decode cX10_alike 63 = .ok (.iadd, 1) := by decide +kernel
theorem dX10_alike_64 : decode cX10_alike 64 = .ok (.istore 4, 2) := by decide +kernel
theorem dX10_alike_66 : decode cX10_alike 66 = .ok (.iload 5, 2) := by decide +kernel
theorem dX10_alike_68 : decode cX10_alike 68 = .ok (.iload_n 1, 1) := by decide +kernel
theorem dX10_alike_69 : decode cX10_alike 69 = .ok (.iload 6, 2) := by decide +kernel
theorem dX10_alike_71 : decode cX10_alike 71 = .ok (.iadd, 1) := by decide +kernel
theorem dX10_alike_72 : decode cX10_alike 72 = .ok (.aload_n 0, 1) := by decide +kernel
theorem dX10_alike_73 : decode cX10_alike 73 = .ok (.getfield 109, 3) := by decide +kernel
theorem dX10_alike_76 : decode cX10_alike 76 = .ok (.if_icmp .ge 20, 3) := by decide +kernel
theorem dX10_alike_79 : decode cX10_alike 79 = .ok (.aload_n 0, 1) := by decide +kernel
theorem dX10_alike_80 : decode cX10_alike 80 = .ok (.getfield 37, 3) := by decide +kernel
theorem dX10_alike_83 : decode cX10_alike 83 = .ok (.bipush 110, 2) := by decide +kernel
theorem dX10_alike_85 : decode cX10_alike 85 = .ok (.iload_n 1, 1) := by decide +kernel
theorem dX10_alike_86 : decode cX10_alike 86 = .ok (.iload 6, 2) := by decide +kernel
theorem dX10_alike_88 : decode cX10_alike 88 = .ok (.iadd, 1) := by decide +kernel
theorem dX10_alike_89 : decode cX10_alike 89 = .ok (.imul, 1) := by decide +kernel
theorem dX10_alike_90 : decode cX10_alike 90 = .ok (.iload_n 3, 1) := by decide +kernel
theorem dX10_alike_91 : decode cX10_alike 91 = .ok (.iadd, 1) := by decide +kernel
theorem dX10_alike_92 : decode cX10_alike 92 = .ok (.iaload, 1) := by decide +kernel
theorem dX10_alike_93 : decode cX10_alike 93 = .ok (.goto 4, 3) := by decide +kernel
theorem dX10_alike_96 : decode cX10_alike 96 = .ok (.iconst 0, 1) := by decide +kernel
theorem dX10_alike_97 : decode cX10_alike 97 = .ok (.iadd, 1) := by decide +kernel
theorem dX10_alike_98 : decode cX10_alike 98 = .ok (.istore 5, 2) := by decide +kernel
theorem dX10_alike_100 : decode cX10_alike 100 = .ok (.iinc 6 1, 3) := by decide +kernel
theorem dX10_alike_103 : decode cX10_alike 103 = .ok (.goto (-82), 3) := by decide +kernel
theorem dX10_alike_106 : decode cX10_alike 106 = .ok (.iload_n 2, 1) := by decide +kernel
theorem dX10_alike_107 : decode cX10_alike 107 = .ok (.iload 4, 2) := by decide +kernel
theorem dX10_alike_109 : decode cX10_alike 109 = .ok (.iload 5, 2) := by decide +kernel
theorem dX10_alike_111 : decode cX10_alike 111 = .ok (.if_icmp .ge 8, 3) := by decide +kernel
theorem dX10_alike_114 : decode cX10_alike 114 = .ok (.iload 4, 2) := by decide +kernel
theorem dX10_alike_116 : decode cX10_alike 116 = .ok (.goto 5, 3) := by decide +kernel
theorem dX10_alike_119 : decode cX10_alike 119 = .ok (.iload 5, 2) := by decide +kernel
theorem dX10_alike_121 : decode cX10_alike 121 = .ok (.iadd, 1) := by decide +kernel
theorem dX10_alike_122 : decode cX10_alike 122 = .ok (.istore_n 2, 1) := by decide +kernel
theorem dX10_alike_123 : decode cX10_alike 123 = .ok (.iinc 3 1, 3) := by decide +kernel
theorem dX10_alike_126 : decode cX10_alike 126 = .ok (.goto (-122), 3) := by decide +kernel
theorem dX10_alike_129 : decode cX10_alike 129 = .ok (.iload_n 2, 1) := by decide +kernel
theorem dX10_alike_130 : decode cX10_alike 130 = .ok (.ireturn, 1) := by decide +kernel
theorem dX10_depth_0 : decode cX10_depth 0 = .ok (.aload_n 0, 1) := by decide +kernel
theorem dX10_depth_1 : decode cX10_depth 1 = .ok (.iload_n 1, 1) := by decide +kernel
theorem dX10_depth_2 : decode cX10_depth 2 = .ok (.invokevirtual 252, 3) := by decide +kernel
theorem dX10_depth_5 : decode cX10_depth 5 = .ok (.istore_n 2, 1) := by decide +kernel
theorem dX10_depth_6 : decode cX10_depth 6 = .ok (.iload_n 1, 1) := by decide +kernel
theorem dX10_depth_7 : decode cX10_depth 7 = .ok (.istore_n 3, 1) := by decide +kernel
theorem dX10_depth_8 : decode cX10_depth 8 = .ok (.iload_n 3, 1) := by decide +kernel
theorem dX10_depth_9 : decode cX10_depth 9 = .ok (.iconst 1, 1) := by decide +kernel
theorem dX10_depth_10 : decode cX10_depth 10 = .ok (.if_icmp .le 24, 3) := by decide +kernel
theorem dX10_depth_13 : decode cX10_depth 13 = .ok (.aload_n 0, 1) := by decide +kernel
theorem dX10_depth_14 : decode cX10_depth 14 = .ok (.iload_n 3, 1) := by decide +kernel
theorem dX10_depth_15 : decode cX10_depth 15 = .ok (.iconst 1, 1) := by decide +kernel
theorem dX10_depth_16 : decode cX10_depth 16 = .ok (.isub, 1) := by decide +kernel
theorem dX10_depth_17 : decode cX10_depth 17 = .ok (.invokevirtual 252, 3) := by decide +kernel
theorem dX10_depth_20 : decode cX10_depth 20 = .ok (.aload_n 0, 1) := by decide +kernel
theorem dX10_depth_21 : decode cX10_depth 21 = .ok (.iload_n 3, 1) := by decide +kernel
theorem dX10_depth_22 : decode cX10_depth 22 = .ok (.invokevirtual 252, 3) := by decide +kernel
theorem dX10_depth_25 : decode cX10_depth 25 = .ok (.if_icmp .lt 9, 3) := by decide +kernel
theorem dX10_depth_28 : decode cX10_depth 28 = .ok (.iinc 3 (-1), 3) := by decide +kernel
theorem dX10_depth_31 : decode cX10_depth 31 = .ok (.goto (-23), 3) := by decide +kernel
theorem dX10_depth_34 : decode cX10_depth 34 = .ok (.iload_n 1, 1) := by decide +kernel
theorem dX10_depth_35 : decode cX10_depth 35 = .ok (.istore 4, 2) := by decide +kernel
theorem dX10_depth_37 : decode cX10_depth 37 = .ok (.iload 4, 2) := by decide +kernel
theorem dX10_depth_39 : decode cX10_depth 39 = .ok (.iconst 1, 1) := by decide +kernel
theorem dX10_depth_40 : decode cX10_depth 40 = .ok (.iadd, 1) := by decide +kernel
theorem dX10_depth_41 : decode cX10_depth 41 = .ok (.aload_n 0, 1) := by decide +kernel
theorem dX10_depth_42 : decode cX10_depth 42 = .ok (.getfield 109, 3) := by decide +kernel
theorem dX10_depth_45 : decode cX10_depth 45 = .ok (.if_icmp .ge 26, 3) := by decide +kernel
theorem dX10_depth_48 : decode cX10_depth 48 = .ok (.aload_n 0, 1) := by decide +kernel
theorem dX10_depth_49 : decode cX10_depth 49 = .ok (.iload 4, 2) := by decide +kernel
theorem dX10_depth_51 : decode cX10_depth 51 = .ok (.iconst 1, 1) := by decide +kernel
theorem dX10_depth_52 : decode cX10_depth 52 = .ok (.iadd, 1) := by decide +kernel
theorem dX10_depth_53 : decode cX10_depth 53 = .ok (.invokevirtual 252, 3) := by decide +kernel
theorem dX10_depth_56 : decode cX10_depth 56 = .ok (.aload_n 0, 1) := by decide +kernel
theorem dX10_depth_57 : decode cX10_depth 57 = .ok (.iload 4, 2) := by decide +kernel
theorem dX10_depth_59 : decode cX10_depth 59 = .ok (.invokevirtual 252, 3) := by decide +kernel
theorem dX10_depth_62 : decode cX10_depth 62 = .ok (.if_icmp .lt 9, 3) := by decide +kernel
theorem dX10_depth_65 : decode cX10_depth 65 = .ok (.iinc 4 1, 3) := by decide +kernel
theorem dX10_depth_68 : decode cX10_depth 68 = .ok (.goto (-31), 3) := by decide +kernel
theorem dX10_depth_71 : decode cX10_depth 71 = .ok (.aload_n 0, 1) := by decide +kernel
theorem dX10_depth_72 : decode cX10_depth 72 = .ok (.iload_n 3, 1) := by decide +kernel
theorem dX10_depth_73 : decode cX10_depth 73 = .ok (.invokevirtual 252, 3) := by decide +kernel
theorem dX10_depth_76 : decode cX10_depth 76 = .ok (.iload_n 2, 1) := by decide +kernel
theorem dX10_depth_77 : decode cX10_depth 77 = .ok (.isub, 1) := by decide +kernel
theorem dX10_depth_78 : decode cX10_depth 78 = .ok (.aload_n 0, 1) := by decide +kernel
theorem dX10_depth_79 : decode cX10_depth 79 = .ok (.iload 4, 2) := by decide +kernel
theorem dX10_depth_81 : decode cX10_depth 81 = .ok (.invokevirtual 252, 3) := by decide +kernel
theorem dX10_depth_84 : decode cX10_depth 84 = .ok (.iadd, 1) := by decide +kernel
theorem dX10_depth_85 : decode cX10_depth 85 = .ok (.iload_n 2, 1) := by decide +kernel
theorem dX10_depth_86 : decode cX10_depth 86 = .ok (.isub, 1) := by decide +kernel
theorem dX10_depth_87 : decode cX10_depth 87 = .ok (.ireturn, 1) := by decide +kernel
theorem dX10_gap_0 : decode cX10_gap 0 = .ok (.aload_n 0, 1) := by decide +kernel
theorem dX10_gap_1 : decode cX10_gap 1 = .ok (.iload_n 1, 1) := by decide +kernel
theorem dX10_gap_2 : decode cX10_gap 2 = .ok (.invokevirtual 204, 3) := by decide +kernel
theorem dX10_gap_5 : decode cX10_gap 5 = .ok (.ifCond .eq 30, 3) := by decide +kernel
theorem dX10_gap_8 : decode cX10_gap 8 = .ok (.iload_n 2, 1) := by decide +kernel
theorem dX10_gap_9 : decode cX10_gap 9 = .ok (.invokestatic 207, 3) := by decide +kernel
theorem dX10_gap_12 : decode cX10_gap 12 = .ok (.ifCond .eq 23, 3) := by decide +kernel
theorem dX10_gap_15 : decode cX10_gap 15 = .ok (.iload_n 2, 1) := by decide +kernel
theorem dX10_gap_16 : decode cX10_gap 16 = .ok (.ifCond .ne 11, 3) := by decide +kernel
theorem dX10_gap_19 : decode cX10_gap 19 = .ok (.aload_n 0, 1) := by decide +kernel
theorem dX10_gap_20 : decode cX10_gap 20 = .ok (.iload_n 1, 1) := by decide +kernel
theorem dX10_gap_21 : decode cX10_gap 21 = .ok (.invokevirtual 252, 3) := by decide +kernel
theorem dX10_gap_24 : decode cX10_gap 24 = .ok (.goto 13, 3) := by decide +kernel
theorem dX10_gap_27 : decode cX10_gap 27 = .ok (.aload_n 0, 1) := by decide +kernel
theorem dX10_gap_28 : decode cX10_gap 28 = .ok (.iload_n 1, 1) := by decide +kernel
theorem dX10_gap_29 : decode cX10_gap 29 = .ok (.invokevirtual 255, 3) := by decide +kernel
theorem dX10_gap_32 : decode cX10_gap 32 = .ok (.goto 5, 3) := by decide +kernel
theorem dX10_gap_35 : decode cX10_gap 35 = .ok (.bipush (-2), 2) := by decide +kernel
theorem dX10_gap_37 : decode cX10_gap 37 = .ok (.ireturn, 1) := by decide +kernel
theorem dX10_deepOf_0 : decode cX10_deepOf 0 = .ok (.aload_n 0, 1) := by decide +kernel
theorem dX10_deepOf_1 : decode cX10_deepOf 1 = .ok (.invokevirtual 147, 3) := by decide +kernel
theorem dX10_deepOf_4 : decode cX10_deepOf 4 = .ok (.iconst 0, 1) := by decide +kernel
theorem dX10_deepOf_5 : decode cX10_deepOf 5 = .ok (.istore_n 2, 1) := by decide +kernel
theorem dX10_deepOf_6 : decode cX10_deepOf 6 = .ok (.iconst (-1), 1) := by decide +kernel
theorem dX10_deepOf_7 : decode cX10_deepOf 7 = .ok (.istore_n 3, 1) := by decide +kernel
theorem dX10_deepOf_8 : decode cX10_deepOf 8 = .ok (.iconst 0, 1) := by decide +kernel
theorem dX10_deepOf_9 : decode cX10_deepOf 9 = .ok (.istore 4, 2) := by decide +kernel
theorem dX10_deepOf_11 : decode cX10_deepOf 11 = .ok (.iload 4, 2) := by decide +kernel
theorem dX10_deepOf_13 : decode cX10_deepOf 13 = .ok (.iload_n 1, 1) := by decide +kernel
theorem dX10_deepOf_14 : decode cX10_deepOf 14 = .ok (.if_icmp .gt 98, 3) := by decide +kernel
theorem dX10_deepOf_17 : decode cX10_deepOf 17 = .ok (.iconst (-1), 1) := by decide +kernel
theorem dX10_deepOf_18 : decode cX10_deepOf 18 = .ok (.istore_n 3, 1) := by decide +kernel
theorem dX10_deepOf_19 : decode cX10_deepOf 19 = .ok (.iconst (-1), 1) := by decide +kernel
theorem dX10_deepOf_20 : decode cX10_deepOf 20 = .ok (.istore 5, 2) := by decide +kernel
theorem dX10_deepOf_22 : decode cX10_deepOf 22 = .ok (.iconst 1, 1) := by decide +kernel
theorem dX10_deepOf_23 : decode cX10_deepOf 23 = .ok (.istore 6, 2) := by decide +kernel
theorem dX10_deepOf_25 : decode cX10_deepOf 25 = .ok (.iload 6, 2) := by decide +kernel
theorem dX10_deepOf_27 : decode cX10_deepOf 27 = .ok (.aload_n 0, 1) := by decide +kernel
theorem dX10_deepOf_28 : decode cX10_deepOf 28 = .ok (.getfield 109, 3) := by decide +kernel
theorem dX10_deepOf_31 : decode cX10_deepOf 31 = .ok (.if_icmp .ge 60, 3) := by decide +kernel
theorem dX10_deepOf_34 : decode cX10_deepOf 34 = .ok (.iload_n 2, 1) := by decide +kernel
theorem dX10_deepOf_35 : decode cX10_deepOf 35 = .ok (.iload 6, 2) := by decide +kernel
theorem dX10_deepOf_37 : decode cX10_deepOf 37 = .ok (.invokestatic 258, 3) := by decide +kernel
theorem dX10_deepOf_40 : decode cX10_deepOf 40 = .ok (.ifCond .eq 7, 3) := by decide +kernel
theorem dX10_deepOf_43 : decode cX10_deepOf 43 = .ok (.iconst (-1), 1) := by decide +kernel
theorem dX10_deepOf_44 : decode cX10_deepOf 44 = .ok (.goto 9, 3) := by decide +kernel
theorem dX10_deepOf_47 : decode cX10_deepOf 47 = .ok (.aload_n 0, 1) := by decide +kernel
theorem dX10_deepOf_48 : decode cX10_deepOf 48 = .ok (.iload 6, 2) := by decide +kernel
theorem dX10_deepOf_50 : decode cX10_deepOf 50 = .ok (.invokevirtual 255, 3) := by decide +kernel
theorem dX10_deepOf_53 : decode cX10_deepOf 53 = .ok (.istore 7, 2) := by decide +kernel
theorem dX10_deepOf_55 : decode cX10_deepOf 55 = .ok (.iload 7, 2) := by decide +kernel
theorem dX10_deepOf_57 : decode cX10_deepOf 57 = .ok (.iload 5, 2) := by decide +kernel
theorem dX10_deepOf_59 : decode cX10_deepOf 59 = .ok (.if_icmp .le 8, 3) := by decide +kernel
theorem dX10_deepOf_62 : decode cX10_deepOf 62 = .ok (.iload 6, 2) := by decide +kernel
theorem dX10_deepOf_64 : decode cX10_deepOf 64 = .ok (.goto 4, 3) := by decide +kernel
theorem dX10_deepOf_67 : decode cX10_deepOf 67 = .ok (.iload_n 3, 1) := by decide +kernel
theorem dX10_deepOf_68 : decode cX10_deepOf 68 = .ok (.istore_n 3, 1) := by decide +kernel
theorem dX10_deepOf_69 : decode cX10_deepOf 69 = .ok (.iload 7, 2) := by decide +kernel
theorem dX10_deepOf_71 : decode cX10_deepOf 71 = .ok (.iload 5, 2) := by decide +kernel
theorem dX10_deepOf_73 : decode cX10_deepOf 73 = .ok (.if_icmp .le 8, 3) := by decide +kernel
theorem dX10_deepOf_76 : decode cX10_deepOf 76 = .ok (.iload 7, 2) := by decide +kernel
theorem dX10_deepOf_78 : decode cX10_deepOf 78 = .ok (.goto 5, 3) := by decide +kernel
theorem dX10_deepOf_81 : decode cX10_deepOf 81 = .ok (.iload 5, 2) := by decide +kernel
theorem dX10_deepOf_83 : decode cX10_deepOf 83 = .ok (.istore 5, 2) := by decide +kernel
theorem dX10_deepOf_85 : decode cX10_deepOf 85 = .ok (.iinc 6 1, 3) := by decide +kernel
theorem dX10_deepOf_88 : decode cX10_deepOf 88 = .ok (.goto (-63), 3) := by decide +kernel
theorem dX10_deepOf_91 : decode cX10_deepOf 91 = .ok (.iload_n 2, 1) := by decide +kernel
theorem dX10_deepOf_92 : decode cX10_deepOf 92 = .ok (.iload_n 3, 1) := by decide +kernel
theorem dX10_deepOf_93 : decode cX10_deepOf 93 = .ok (.iconst (-1), 1) := by decide +kernel
theorem dX10_deepOf_94 : decode cX10_deepOf 94 = .ok (.if_icmp .ne 7, 3) := by decide +kernel
theorem dX10_deepOf_97 : decode cX10_deepOf 97 = .ok (.iconst 0, 1) := by decide +kernel
theorem dX10_deepOf_98 : decode cX10_deepOf 98 = .ok (.goto 6, 3) := by decide +kernel
theorem dX10_deepOf_101 : decode cX10_deepOf 101 = .ok (.iconst 1, 1) := by decide +kernel
theorem dX10_deepOf_102 : decode cX10_deepOf 102 = .ok (.iload_n 3, 1) := by decide +kernel
theorem dX10_deepOf_103 : decode cX10_deepOf 103 = .ok (.ishl, 1) := by decide +kernel
theorem dX10_deepOf_104 : decode cX10_deepOf 104 = .ok (.ior, 1) := by decide +kernel
theorem dX10_deepOf_105 : decode cX10_deepOf 105 = .ok (.istore_n 2, 1) := by decide +kernel
theorem dX10_deepOf_106 : decode cX10_deepOf 106 = .ok (.iinc 4 1, 3) := by decide +kernel
theorem dX10_deepOf_109 : decode cX10_deepOf 109 = .ok (.goto (-98), 3) := by decide +kernel
theorem dX10_deepOf_112 : decode cX10_deepOf 112 = .ok (.iload_n 3, 1) := by decide +kernel
theorem dX10_deepOf_113 : decode cX10_deepOf 113 = .ok (.ireturn, 1) := by decide +kernel
theorem dX10_deep_0 : decode cX10_deep 0 = .ok (.iload_n 1, 1) := by decide +kernel
theorem dX10_deep_1 : decode cX10_deep 1 = .ok (.iconst 0, 1) := by decide +kernel
theorem dX10_deep_2 : decode cX10_deep 2 = .ok (.bipush 10, 2) := by decide +kernel
theorem dX10_deep_4 : decode cX10_deep 4 = .ok (.invokestatic 77, 3) := by decide +kernel
theorem dX10_deep_7 : decode cX10_deep 7 = .ok (.ifCond .eq 11, 3) := by decide +kernel
theorem dX10_deep_10 : decode cX10_deep 10 = .ok (.aload_n 0, 1) := by decide +kernel
theorem dX10_deep_11 : decode cX10_deep 11 = .ok (.iload_n 1, 1) := by decide +kernel
theorem dX10_deep_12 : decode cX10_deep 12 = .ok (.invokevirtual 261, 3) := by decide +kernel
theorem dX10_deep_15 : decode cX10_deep 15 = .ok (.goto 5, 3) := by decide +kernel
theorem dX10_deep_18 : decode cX10_deep 18 = .ok (.bipush (-2), 2) := by decide +kernel
theorem dX10_deep_20 : decode cX10_deep 20 = .ok (.ireturn, 1) := by decide +kernel
theorem dX10_apartOf_0 : decode cX10_apartOf 0 = .ok (.aload_n 0, 1) := by decide +kernel
theorem dX10_apartOf_1 : decode cX10_apartOf 1 = .ok (.invokevirtual 228, 3) := by decide +kernel
theorem dX10_apartOf_4 : decode cX10_apartOf 4 = .ok (.aload_n 0, 1) := by decide +kernel
theorem dX10_apartOf_5 : decode cX10_apartOf 5 = .ok (.iload_n 1, 1) := by decide +kernel
theorem dX10_apartOf_6 : decode cX10_apartOf 6 = .ok (.invokevirtual 231, 3) := by decide +kernel
theorem dX10_apartOf_9 : decode cX10_apartOf 9 = .ok (.iconst (-1), 1) := by decide +kernel
theorem dX10_apartOf_10 : decode cX10_apartOf 10 = .ok (.if_icmp .ne 5, 3) := by decide +kernel
theorem dX10_apartOf_13 : decode cX10_apartOf 13 = .ok (.iconst (-1), 1) := by decide +kernel
theorem dX10_apartOf_14 : decode cX10_apartOf 14 = .ok (.ireturn, 1) := by decide +kernel
theorem dX10_apartOf_15 : decode cX10_apartOf 15 = .ok (.iconst 0, 1) := by decide +kernel
theorem dX10_apartOf_16 : decode cX10_apartOf 16 = .ok (.istore_n 3, 1) := by decide +kernel
theorem dX10_apartOf_17 : decode cX10_apartOf 17 = .ok (.iconst 1, 1) := by decide +kernel
theorem dX10_apartOf_18 : decode cX10_apartOf 18 = .ok (.istore 4, 2) := by decide +kernel
theorem dX10_apartOf_20 : decode cX10_apartOf 20 = .ok (.iload 4, 2) := by decide +kernel
theorem dX10_apartOf_22 : decode cX10_apartOf 22 = .ok (.iload_n 1, 1) := by decide +kernel
theorem dX10_apartOf_23 : decode cX10_apartOf 23 = .ok (.if_icmp .ge 21, 3) := by decide +kernel
theorem dX10_apartOf_26 : decode cX10_apartOf 26 = .ok (.iload_n 3, 1) := by decide +kernel
theorem dX10_apartOf_27 : decode cX10_apartOf 27 = .ok (.iconst 1, 1) := by decide +kernel
theorem dX10_apartOf_28 : decode cX10_apartOf 28 = .ok (.aload_n 0, 1) := by decide +kernel
theorem dX10_apartOf_29 : decode cX10_apartOf 29 = .ok (.iload_n 1, 1) := by decide +kernel
theorem dX10_apartOf_30 : decode cX10_apartOf 30 = .ok (.iload 4, 2) := by decide +kernel
theorem dX10_apartOf_32 : decode cX10_apartOf 32 = .ok (.invokevirtual 240, 3) := by decide +kernel
theorem dX10_apartOf_35 : decode cX10_apartOf 35 = .ok (.ishl, 1) := by decide +kernel
theorem dX10_apartOf_36 : decode cX10_apartOf 36 = .ok (.ior, 1) := by decide +kernel
theorem dX10_apartOf_37 : decode cX10_apartOf 37 = .ok (.istore_n 3, 1) := by decide +kernel
theorem dX10_apartOf_38 : decode cX10_apartOf 38 = .ok (.iinc 4 1, 3) := by decide +kernel
theorem dX10_apartOf_41 : decode cX10_apartOf 41 = .ok (.goto (-21), 3) := by decide +kernel
theorem dX10_apartOf_44 : decode cX10_apartOf 44 = .ok (.iconst 0, 1) := by decide +kernel
theorem dX10_apartOf_45 : decode cX10_apartOf 45 = .ok (.istore 4, 2) := by decide +kernel
theorem dX10_apartOf_47 : decode cX10_apartOf 47 = .ok (.iconst 0, 1) := by decide +kernel
theorem dX10_apartOf_48 : decode cX10_apartOf 48 = .ok (.istore 5, 2) := by decide +kernel
theorem dX10_apartOf_50 : decode cX10_apartOf 50 = .ok (.iload 5, 2) := by decide +kernel
theorem dX10_apartOf_52 : decode cX10_apartOf 52 = .ok (.iload_n 2, 1) := by decide +kernel
theorem dX10_apartOf_53 : decode cX10_apartOf 53 = .ok (.iadd, 1) := by decide +kernel
theorem dX10_apartOf_54 : decode cX10_apartOf 54 = .ok (.aload_n 0, 1) := by decide +kernel
theorem dX10_apartOf_55 : decode cX10_apartOf 55 = .ok (.getfield 109, 3) := by decide +kernel
theorem dX10_apartOf_58 : decode cX10_apartOf 58 = .ok (.if_icmp .ge 94, 3) := by decide +kernel
theorem dX10_apartOf_61 : decode cX10_apartOf 61 = .ok (.iconst 0, 1) := by decide +kernel
theorem dX10_apartOf_62 : decode cX10_apartOf 62 = .ok (.istore 6, 2) := by decide +kernel
theorem dX10_apartOf_64 : decode cX10_apartOf 64 = .ok (.iconst 0, 1) := by decide +kernel
theorem dX10_apartOf_65 : decode cX10_apartOf 65 = .ok (.istore 7, 2) := by decide +kernel
theorem dX10_apartOf_67 : decode cX10_apartOf 67 = .ok (.iload 5, 2) := by decide +kernel
theorem dX10_apartOf_69 : decode cX10_apartOf 69 = .ok (.iconst 1, 1) := by decide +kernel
theorem dX10_apartOf_70 : decode cX10_apartOf 70 = .ok (.iadd, 1) := by decide +kernel
theorem dX10_apartOf_71 : decode cX10_apartOf 71 = .ok (.istore 8, 2) := by decide +kernel
theorem dX10_apartOf_73 : decode cX10_apartOf 73 = .ok (.iload 8, 2) := by decide +kernel
theorem dX10_apartOf_75 : decode cX10_apartOf 75 = .ok (.iload 5, 2) := by decide +kernel
theorem dX10_apartOf_77 : decode cX10_apartOf 77 = .ok (.iload_n 2, 1) := by decide +kernel
theorem dX10_apartOf_78 : decode cX10_apartOf 78 = .ok (.iadd, 1) := by decide +kernel
theorem dX10_apartOf_79 : decode cX10_apartOf 79 = .ok (.if_icmp .gt 50, 3) := by decide +kernel
theorem dX10_apartOf_82 : decode cX10_apartOf 82 = .ok (.iload 6, 2) := by decide +kernel
theorem dX10_apartOf_84 : decode cX10_apartOf 84 = .ok (.iload_n 3, 1) := by decide +kernel
theorem dX10_apartOf_85 : decode cX10_apartOf 85 = .ok (.iload 8, 2) := by decide +kernel
theorem dX10_apartOf_87 : decode cX10_apartOf 87 = .ok (.invokestatic 258, 3) := by decide +kernel
theorem dX10_apartOf_90 : decode cX10_apartOf 90 = .ok (.ifCond .eq 7, 3) := by decide +kernel
theorem dX10_apartOf_93 : decode cX10_apartOf 93 = .ok (.iconst 1, 1) := by decide +kernel
theorem dX10_apartOf_94 : decode cX10_apartOf 94 = .ok (.goto 4, 3) := by decide +kernel
theorem dX10_apartOf_97 : decode cX10_apartOf 97 = .ok (.iconst 0, 1) := by decide +kernel
theorem dX10_apartOf_98 : decode cX10_apartOf 98 = .ok (.iadd, 1) := by decide +kernel
theorem dX10_apartOf_99 : decode cX10_apartOf 99 = .ok (.istore 6, 2) := by decide +kernel
theorem dX10_apartOf_101 : decode cX10_apartOf 101 = .ok (.iload 7, 2) := by decide +kernel
theorem dX10_apartOf_103 : decode cX10_apartOf 103 = .ok (.aload_n 0, 1) := by decide +kernel
theorem dX10_apartOf_104 : decode cX10_apartOf 104 = .ok (.getfield 89, 3) := by decide +kernel
theorem dX10_apartOf_107 : decode cX10_apartOf 107 = .ok (.iload 8, 2) := by decide +kernel
theorem dX10_apartOf_109 : decode cX10_apartOf 109 = .ok (.invokestatic 258, 3) := by decide +kernel
theorem dX10_apartOf_112 : decode cX10_apartOf 112 = .ok (.ifCond .eq 7, 3) := by decide +kernel
theorem dX10_apartOf_115 : decode cX10_apartOf 115 = .ok (.iconst 1, 1) := by decide +kernel
theorem dX10_apartOf_116 : decode cX10_apartOf 116 = .ok (.goto 4, 3) := by decide +kernel
theorem dX10_apartOf_119 : decode cX10_apartOf 119 = .ok (.iconst 0, 1) := by decide +kernel
theorem dX10_apartOf_120 : decode cX10_apartOf 120 = .ok (.iadd, 1) := by decide +kernel
theorem dX10_apartOf_121 : decode cX10_apartOf 121 = .ok (.istore 7, 2) := by decide +kernel
theorem dX10_apartOf_123 : decode cX10_apartOf 123 = .ok (.iinc 8 1, 3) := by decide +kernel
theorem dX10_apartOf_126 : decode cX10_apartOf 126 = .ok (.goto (-53), 3) := by decide +kernel
theorem dX10_apartOf_129 : decode cX10_apartOf 129 = .ok (.iload 4, 2) := by decide +kernel
theorem dX10_apartOf_131 : decode cX10_apartOf 131 = .ok (.iload 6, 2) := by decide +kernel
theorem dX10_apartOf_133 : decode cX10_apartOf 133 = .ok (.iload 7, 2) := by decide +kernel
theorem dX10_apartOf_135 : decode cX10_apartOf 135 = .ok (.if_icmp .eq 7, 3) := by decide +kernel
theorem dX10_apartOf_138 : decode cX10_apartOf 138 = .ok (.iconst 1, 1) := by decide +kernel
theorem dX10_apartOf_139 : decode cX10_apartOf 139 = .ok (.goto 4, 3) := by decide +kernel
theorem dX10_apartOf_142 : decode cX10_apartOf 142 = .ok (.iconst 0, 1) := by decide +kernel
theorem dX10_apartOf_143 : decode cX10_apartOf 143 = .ok (.iadd, 1) := by decide +kernel
theorem dX10_apartOf_144 : decode cX10_apartOf 144 = .ok (.istore 4, 2) := by decide +kernel
theorem dX10_apartOf_146 : decode cX10_apartOf 146 = .ok (.iinc 5 1, 3) := by decide +kernel
theorem dX10_apartOf_149 : decode cX10_apartOf 149 = .ok (.goto (-99), 3) := by decide +kernel
theorem dX10_apartOf_152 : decode cX10_apartOf 152 = .ok (.iload 4, 2) := by decide +kernel
theorem dX10_apartOf_154 : decode cX10_apartOf 154 = .ok (.ireturn, 1) := by decide +kernel
theorem dX10_apart_0 : decode cX10_apart 0 = .ok (.iload_n 1, 1) := by decide +kernel
theorem dX10_apart_1 : decode cX10_apart 1 = .ok (.invokestatic 234, 3) := by decide +kernel
theorem dX10_apart_4 : decode cX10_apart 4 = .ok (.ifCond .eq 22, 3) := by decide +kernel
theorem dX10_apart_7 : decode cX10_apart 7 = .ok (.iload_n 2, 1) := by decide +kernel
theorem dX10_apart_8 : decode cX10_apart 8 = .ok (.iconst 1, 1) := by decide +kernel
theorem dX10_apart_9 : decode cX10_apart 9 = .ok (.bipush 11, 2) := by decide +kernel
theorem dX10_apart_11 : decode cX10_apart 11 = .ok (.invokestatic 77, 3) := by decide +kernel
theorem dX10_apart_14 : decode cX10_apart 14 = .ok (.ifCond .eq 12, 3) := by decide +kernel
theorem dX10_apart_17 : decode cX10_apart 17 = .ok (.aload_n 0, 1) := by decide +kernel
theorem dX10_apart_18 : decode cX10_apart 18 = .ok (.iload_n 1, 1) := by decide +kernel
theorem dX10_apart_19 : decode cX10_apart 19 = .ok (.iload_n 2, 1) := by decide +kernel
theorem dX10_apart_20 : decode cX10_apart 20 = .ok (.invokevirtual 264, 3) := by decide +kernel
theorem dX10_apart_23 : decode cX10_apart 23 = .ok (.goto 5, 3) := by decide +kernel
theorem dX10_apart_26 : decode cX10_apart 26 = .ok (.bipush (-2), 2) := by decide +kernel
theorem dX10_apart_28 : decode cX10_apart 28 = .ok (.ireturn, 1) := by decide +kernel
theorem dX10_meets_0 : decode cX10_meets 0 = .ok (.aload_n 0, 1) := by decide +kernel
theorem dX10_meets_1 : decode cX10_meets 1 = .ok (.iload_n 1, 1) := by decide +kernel
theorem dX10_meets_2 : decode cX10_meets 2 = .ok (.putfield 267, 3) := by decide +kernel
theorem dX10_meets_5 : decode cX10_meets 5 = .ok (.bipush (-10), 2) := by decide +kernel
theorem dX10_meets_7 : decode cX10_meets 7 = .ok (.iload_n 1, 1) := by decide +kernel
theorem dX10_meets_8 : decode cX10_meets 8 = .ok (.isub, 1) := by decide +kernel
theorem dX10_meets_9 : decode cX10_meets 9 = .ok (.ireturn, 1) := by decide +kernel
theorem dX10_isSheet_0 : decode cX10_isSheet 0 = .ok (.iload_n 0, 1) := by decide +kernel
theorem dX10_isSheet_1 : decode cX10_isSheet 1 = .ok (.iconst 0, 1) := by decide +kernel
theorem dX10_isSheet_2 : decode cX10_isSheet 2 = .ok (.iconst 3, 1) := by decide +kernel
theorem dX10_isSheet_3 : decode cX10_isSheet 3 = .ok (.invokestatic 77, 3) := by decide +kernel
theorem dX10_isSheet_6 : decode cX10_isSheet 6 = .ok (.ireturn, 1) := by decide +kernel
theorem dX10_sheet_0 : decode cX10_sheet 0 = .ok (.iload_n 1, 1) := by decide +kernel
theorem dX10_sheet_1 : decode cX10_sheet 1 = .ok (.invokestatic 92, 3) := by decide +kernel
theorem dX10_sheet_4 : decode cX10_sheet 4 = .ok (.ifCond .eq 18, 3) := by decide +kernel
theorem dX10_sheet_7 : decode cX10_sheet 7 = .ok (.iload_n 2, 1) := by decide +kernel
theorem dX10_sheet_8 : decode cX10_sheet 8 = .ok (.iconst 0, 1) := by decide +kernel
theorem dX10_sheet_9 : decode cX10_sheet 9 = .ok (.iconst 2, 1) := by decide +kernel
theorem dX10_sheet_10 : decode cX10_sheet 10 = .ok (.invokestatic 77, 3) := by decide +kernel
theorem dX10_sheet_13 : decode cX10_sheet 13 = .ok (.ifCond .eq 9, 3) := by decide +kernel
theorem dX10_sheet_16 : decode cX10_sheet 16 = .ok (.iload_n 3, 1) := by decide +kernel
theorem dX10_sheet_17 : decode cX10_sheet 17 = .ok (.bipush 60, 2) := by decide +kernel
theorem dX10_sheet_19 : decode cX10_sheet 19 = .ok (.if_icmp .le 6, 3) := by decide +kernel
theorem dX10_sheet_22 : decode cX10_sheet 22 = .ok (.bipush (-2), 2) := by decide +kernel
theorem dX10_sheet_24 : decode cX10_sheet 24 = .ok (.ireturn, 1) := by decide +kernel
theorem dX10_sheet_25 : decode cX10_sheet 25 = .ok (.iload_n 3, 1) := by decide +kernel
theorem dX10_sheet_26 : decode cX10_sheet 26 = .ok (.ifCond .ge 9, 3) := by decide +kernel
theorem dX10_sheet_29 : decode cX10_sheet 29 = .ok (.aload_n 0, 1) := by decide +kernel
theorem dX10_sheet_30 : decode cX10_sheet 30 = .ok (.iconst 5, 1) := by decide +kernel
theorem dX10_sheet_31 : decode cX10_sheet 31 = .ok (.invokevirtual 96, 3) := by decide +kernel
theorem dX10_sheet_34 : decode cX10_sheet 34 = .ok (.ireturn, 1) := by decide +kernel
theorem dX10_sheet_35 : decode cX10_sheet 35 = .ok (.aload_n 0, 1) := by decide +kernel
theorem dX10_sheet_36 : decode cX10_sheet 36 = .ok (.getfield 61, 3) := by decide +kernel
theorem dX10_sheet_39 : decode cX10_sheet 39 = .ok (.iload_n 1, 1) := by decide +kernel
theorem dX10_sheet_40 : decode cX10_sheet 40 = .ok (.iconst 1, 1) := by decide +kernel
theorem dX10_sheet_41 : decode cX10_sheet 41 = .ok (.bastore, 1) := by decide +kernel
theorem dX10_sheet_42 : decode cX10_sheet 42 = .ok (.aload_n 0, 1) := by decide +kernel
theorem dX10_sheet_43 : decode cX10_sheet 43 = .ok (.getfield 65, 3) := by decide +kernel
theorem dX10_sheet_46 : decode cX10_sheet 46 = .ok (.iload_n 1, 1) := by decide +kernel
theorem dX10_sheet_47 : decode cX10_sheet 47 = .ok (.iload_n 2, 1) := by decide +kernel
theorem dX10_sheet_48 : decode cX10_sheet 48 = .ok (.iastore, 1) := by decide +kernel
theorem dX10_sheet_49 : decode cX10_sheet 49 = .ok (.aload_n 0, 1) := by decide +kernel
theorem dX10_sheet_50 : decode cX10_sheet 50 = .ok (.getfield 68, 3) := by decide +kernel
theorem dX10_sheet_53 : decode cX10_sheet 53 = .ok (.iload_n 1, 1) := by decide +kernel
theorem dX10_sheet_54 : decode cX10_sheet 54 = .ok (.iload_n 3, 1) := by decide +kernel
theorem dX10_sheet_55 : decode cX10_sheet 55 = .ok (.iastore, 1) := by decide +kernel
theorem dX10_sheet_56 : decode cX10_sheet 56 = .ok (.iconst 0, 1) := by decide +kernel
theorem dX10_sheet_57 : decode cX10_sheet 57 = .ok (.istore 4, 2) := by decide +kernel
theorem dX10_sheet_59 : decode cX10_sheet 59 = .ok (.iload 4, 2) := by decide +kernel
theorem dX10_sheet_61 : decode cX10_sheet 61 = .ok (.bipush 60, 2) := by decide +kernel
theorem dX10_sheet_63 : decode cX10_sheet 63 = .ok (.if_icmp .ge 22, 3) := by decide +kernel
theorem dX10_sheet_66 : decode cX10_sheet 66 = .ok (.aload_n 0, 1) := by decide +kernel
theorem dX10_sheet_67 : decode cX10_sheet 67 = .ok (.getfield 71, 3) := by decide +kernel
theorem dX10_sheet_70 : decode cX10_sheet 70 = .ok (.bipush 60, 2) := by decide +kernel
theorem dX10_sheet_72 : decode cX10_sheet 72 = .ok (.iload_n 1, 1) := by decide +kernel
theorem dX10_sheet_73 : decode cX10_sheet 73 = .ok (.imul, 1) := by decide +kernel
theorem dX10_sheet_74 : decode cX10_sheet 74 = .ok (.iload 4, 2) := by decide +kernel
theorem dX10_sheet_76 : decode cX10_sheet 76 = .ok (.iadd, 1) := by decide +kernel
theorem dX10_sheet_77 : decode cX10_sheet 77 = .ok (.iconst 0, 1) := by decide +kernel
theorem dX10_sheet_78 : decode cX10_sheet 78 = .ok (.iastore, 1) := by decide +kernel
theorem dX10_sheet_79 : decode cX10_sheet 79 = .ok (.iinc 4 1, 3) := by decide +kernel
theorem dX10_sheet_82 : decode cX10_sheet 82 = .ok (.goto (-23), 3) := by decide +kernel
theorem dX10_sheet_85 : decode cX10_sheet 85 = .ok (.iload_n 3, 1) := by decide +kernel
theorem dX10_sheet_86 : decode cX10_sheet 86 = .ok (.ireturn, 1) := by decide +kernel
theorem dX10_lose_0 : decode cX10_lose 0 = .ok (.iload_n 1, 1) := by decide +kernel
theorem dX10_lose_1 : decode cX10_lose 1 = .ok (.invokestatic 92, 3) := by decide +kernel
theorem dX10_lose_4 : decode cX10_lose 4 = .ok (.ifCond .ne 6, 3) := by decide +kernel
theorem dX10_lose_7 : decode cX10_lose 7 = .ok (.bipush (-2), 2) := by decide +kernel
theorem dX10_lose_9 : decode cX10_lose 9 = .ok (.ireturn, 1) := by decide +kernel
theorem dX10_lose_10 : decode cX10_lose 10 = .ok (.aload_n 0, 1) := by decide +kernel
theorem dX10_lose_11 : decode cX10_lose 11 = .ok (.getfield 61, 3) := by decide +kernel
theorem dX10_lose_14 : decode cX10_lose 14 = .ok (.iload_n 1, 1) := by decide +kernel
theorem dX10_lose_15 : decode cX10_lose 15 = .ok (.baload, 1) := by decide +kernel
theorem dX10_lose_16 : decode cX10_lose 16 = .ok (.ifCond .ne 9, 3) := by decide +kernel
theorem dX10_lose_19 : decode cX10_lose 19 = .ok (.aload_n 0, 1) := by decide +kernel
theorem dX10_lose_20 : decode cX10_lose 20 = .ok (.iconst 1, 1) := by decide +kernel
theorem dX10_lose_21 : decode cX10_lose 21 = .ok (.invokevirtual 96, 3) := by decide +kernel
theorem dX10_lose_24 : decode cX10_lose 24 = .ok (.ireturn, 1) := by decide +kernel
theorem dX10_lose_25 : decode cX10_lose 25 = .ok (.aload_n 0, 1) := by decide +kernel
theorem dX10_lose_26 : decode cX10_lose 26 = .ok (.getfield 61, 3) := by decide +kernel
theorem dX10_lose_29 : decode cX10_lose 29 = .ok (.iload_n 1, 1) := by decide +kernel
theorem dX10_lose_30 : decode cX10_lose 30 = .ok (.iconst 0, 1) := by decide +kernel
theorem dX10_lose_31 : decode cX10_lose 31 = .ok (.bastore, 1) := by decide +kernel
theorem dX10_lose_32 : decode cX10_lose 32 = .ok (.aload_n 0, 1) := by decide +kernel
theorem dX10_lose_33 : decode cX10_lose 33 = .ok (.getfield 68, 3) := by decide +kernel
theorem dX10_lose_36 : decode cX10_lose 36 = .ok (.iload_n 1, 1) := by decide +kernel
theorem dX10_lose_37 : decode cX10_lose 37 = .ok (.iaload, 1) := by decide +kernel
theorem dX10_lose_38 : decode cX10_lose 38 = .ok (.ireturn, 1) := by decide +kernel
theorem dX10_lacks_0 : decode cX10_lacks 0 = .ok (.aload_n 0, 1) := by decide +kernel
theorem dX10_lacks_1 : decode cX10_lacks 1 = .ok (.getfield 61, 3) := by decide +kernel
theorem dX10_lacks_4 : decode cX10_lacks 4 = .ok (.iload_n 1, 1) := by decide +kernel
theorem dX10_lacks_5 : decode cX10_lacks 5 = .ok (.baload, 1) := by decide +kernel
theorem dX10_lacks_6 : decode cX10_lacks 6 = .ok (.ifCond .ne 7, 3) := by decide +kernel
theorem dX10_lacks_9 : decode cX10_lacks 9 = .ok (.iconst 1, 1) := by decide +kernel
theorem dX10_lacks_10 : decode cX10_lacks 10 = .ok (.goto 38, 3) := by decide +kernel
theorem dX10_lacks_13 : decode cX10_lacks 13 = .ok (.aload_n 0, 1) := by decide +kernel
theorem dX10_lacks_14 : decode cX10_lacks 14 = .ok (.getfield 65, 3) := by decide +kernel
theorem dX10_lacks_17 : decode cX10_lacks 17 = .ok (.iload_n 1, 1) := by decide +kernel
theorem dX10_lacks_18 : decode cX10_lacks 18 = .ok (.iaload, 1) := by decide +kernel
theorem dX10_lacks_19 : decode cX10_lacks 19 = .ok (.iload_n 2, 1) := by decide +kernel
theorem dX10_lacks_20 : decode cX10_lacks 20 = .ok (.if_icmp .eq 7, 3) := by decide +kernel
theorem dX10_lacks_23 : decode cX10_lacks 23 = .ok (.iconst 3, 1) := by decide +kernel
theorem dX10_lacks_24 : decode cX10_lacks 24 = .ok (.goto 24, 3) := by decide +kernel
theorem dX10_lacks_27 : decode cX10_lacks 27 = .ok (.iload_n 3, 1) := by decide +kernel
theorem dX10_lacks_28 : decode cX10_lacks 28 = .ok (.iconst 0, 1) := by decide +kernel
theorem dX10_lacks_29 : decode cX10_lacks 29 = .ok (.aload_n 0, 1) := by decide +kernel
theorem dX10_lacks_30 : decode cX10_lacks 30 = .ok (.getfield 68, 3) := by decide +kernel
theorem dX10_lacks_33 : decode cX10_lacks 33 = .ok (.iload_n 1, 1) := by decide +kernel
theorem dX10_lacks_34 : decode cX10_lacks 34 = .ok (.iaload, 1) := by decide +kernel
theorem dX10_lacks_35 : decode cX10_lacks 35 = .ok (.iconst 1, 1) := by decide +kernel
theorem dX10_lacks_36 : decode cX10_lacks 36 = .ok (.isub, 1) := by decide +kernel
theorem dX10_lacks_37 : decode cX10_lacks 37 = .ok (.invokestatic 77, 3) := by decide +kernel
theorem dX10_lacks_40 : decode cX10_lacks 40 = .ok (.ifCond .eq 7, 3) := by decide +kernel
theorem dX10_lacks_43 : decode cX10_lacks 43 = .ok (.iconst 0, 1) := by decide +kernel
theorem dX10_lacks_44 : decode cX10_lacks 44 = .ok (.goto 4, 3) := by decide +kernel
theorem dX10_lacks_47 : decode cX10_lacks 47 = .ok (.iconst 2, 1) := by decide +kernel
theorem dX10_lacks_48 : decode cX10_lacks 48 = .ok (.ireturn, 1) := by decide +kernel
theorem dX10_keep_0 : decode cX10_keep 0 = .ok (.aload_n 0, 1) := by decide +kernel
theorem dX10_keep_1 : decode cX10_keep 1 = .ok (.getfield 71, 3) := by decide +kernel
theorem dX10_keep_4 : decode cX10_keep 4 = .ok (.bipush 60, 2) := by decide +kernel
theorem dX10_keep_6 : decode cX10_keep 6 = .ok (.iload_n 1, 1) := by decide +kernel
theorem dX10_keep_7 : decode cX10_keep 7 = .ok (.imul, 1) := by decide +kernel
theorem dX10_keep_8 : decode cX10_keep 8 = .ok (.iload_n 2, 1) := by decide +kernel
theorem dX10_keep_9 : decode cX10_keep 9 = .ok (.iadd, 1) := by decide +kernel
theorem dX10_keep_10 : decode cX10_keep 10 = .ok (.aload_n 0, 1) := by decide +kernel
theorem dX10_keep_11 : decode cX10_keep 11 = .ok (.getfield 65, 3) := by decide +kernel
theorem dX10_keep_14 : decode cX10_keep 14 = .ok (.iload_n 1, 1) := by decide +kernel
theorem dX10_keep_15 : decode cX10_keep 15 = .ok (.iaload, 1) := by decide +kernel
theorem dX10_keep_16 : decode cX10_keep 16 = .ok (.ifCond .ne 8, 3) := by decide +kernel
theorem dX10_keep_19 : decode cX10_keep 19 = .ok (.iload_n 3, 1) := by decide +kernel
theorem dX10_keep_20 : decode cX10_keep 20 = .ok (.i2b, 1) := by decide +kernel
theorem dX10_keep_21 : decode cX10_keep 21 = .ok (.goto 19, 3) := by decide +kernel
theorem dX10_keep_24 : decode cX10_keep 24 = .ok (.aload_n 0, 1) := by decide +kernel
theorem dX10_keep_25 : decode cX10_keep 25 = .ok (.getfield 65, 3) := by decide +kernel
theorem dX10_keep_28 : decode cX10_keep 28 = .ok (.iload_n 1, 1) := by decide +kernel
theorem dX10_keep_29 : decode cX10_keep 29 = .ok (.iaload, 1) := by decide +kernel
theorem dX10_keep_30 : decode cX10_keep 30 = .ok (.iconst 1, 1) := by decide +kernel
theorem dX10_keep_31 : decode cX10_keep 31 = .ok (.if_icmp .ne 8, 3) := by decide +kernel
theorem dX10_keep_34 : decode cX10_keep 34 = .ok (.iload_n 3, 1) := by decide +kernel
theorem dX10_keep_35 : decode cX10_keep 35 = .ok (.i2s, 1) := by decide +kernel
theorem dX10_keep_36 : decode cX10_keep 36 = .ok (.goto 4, 3) := by decide +kernel
theorem dX10_keep_39 : decode cX10_keep 39 = .ok (.iload_n 3, 1) := by decide +kernel
theorem dX10_keep_40 : decode cX10_keep 40 = .ok (.iastore, 1) := by decide +kernel
theorem dX10_keep_41 : decode cX10_keep 41 = .ok (.return_, 1) := by decide +kernel
theorem dX10_put_0 : decode cX10_put 0 = .ok (.iload_n 1, 1) := by decide +kernel
theorem dX10_put_1 : decode cX10_put 1 = .ok (.invokestatic 92, 3) := by decide +kernel
theorem dX10_put_4 : decode cX10_put 4 = .ok (.ifCond .eq 12, 3) := by decide +kernel
theorem dX10_put_7 : decode cX10_put 7 = .ok (.iload_n 2, 1) := by decide +kernel
theorem dX10_put_8 : decode cX10_put 8 = .ok (.iconst 0, 1) := by decide +kernel
theorem dX10_put_9 : decode cX10_put 9 = .ok (.iconst 2, 1) := by decide +kernel
theorem dX10_put_10 : decode cX10_put 10 = .ok (.invokestatic 77, 3) := by decide +kernel
theorem dX10_put_13 : decode cX10_put 13 = .ok (.ifCond .ne 6, 3) := by decide +kernel
theorem dX10_put_16 : decode cX10_put 16 = .ok (.bipush (-2), 2) := by decide +kernel
theorem dX10_put_18 : decode cX10_put 18 = .ok (.ireturn, 1) := by decide +kernel
theorem dX10_put_19 : decode cX10_put 19 = .ok (.aload_n 0, 1) := by decide +kernel
theorem dX10_put_20 : decode cX10_put 20 = .ok (.iload_n 1, 1) := by decide +kernel
theorem dX10_put_21 : decode cX10_put 21 = .ok (.iload_n 2, 1) := by decide +kernel
theorem dX10_put_22 : decode cX10_put 22 = .ok (.iload_n 3, 1) := by decide +kernel
theorem dX10_put_23 : decode cX10_put 23 = .ok (.invokevirtual 270, 3) := by decide +kernel
theorem dX10_put_26 : decode cX10_put 26 = .ok (.istore 5, 2) := by decide +kernel
theorem dX10_put_28 : decode cX10_put 28 = .ok (.iload 5, 2) := by decide +kernel
theorem dX10_put_30 : decode cX10_put 30 = .ok (.ifCond .le 10, 3) := by decide +kernel
theorem dX10_put_33 : decode cX10_put 33 = .ok (.aload_n 0, 1) := by decide +kernel
theorem dX10_put_34 : decode cX10_put 34 = .ok (.iload 5, 2) := by decide +kernel
theorem dX10_put_36 : decode cX10_put 36 = .ok (.invokevirtual 96, 3) := by decide +kernel
theorem dX10_put_39 : decode cX10_put 39 = .ok (.ireturn, 1) := by decide +kernel
theorem dX10_put_40 : decode cX10_put 40 = .ok (.aload_n 0, 1) := by decide +kernel
theorem dX10_put_41 : decode cX10_put 41 = .ok (.iload_n 1, 1) := by decide +kernel
theorem dX10_put_42 : decode cX10_put 42 = .ok (.iload_n 3, 1) := by decide +kernel
theorem dX10_put_43 : decode cX10_put 43 = .ok (.iload 4, 2) := by decide +kernel
theorem dX10_put_45 : decode cX10_put 45 = .ok (.invokevirtual 274, 3) := by decide +kernel
theorem dX10_put_48 : decode cX10_put 48 = .ok (.iconst 1, 1) := by decide +kernel
theorem dX10_put_49 : decode cX10_put 49 = .ok (.ireturn, 1) := by decide +kernel
theorem dX10_get_0 : decode cX10_get 0 = .ok (.iload_n 1, 1) := by decide +kernel
theorem dX10_get_1 : decode cX10_get 1 = .ok (.invokestatic 92, 3) := by decide +kernel
theorem dX10_get_4 : decode cX10_get 4 = .ok (.ifCond .eq 12, 3) := by decide +kernel
theorem dX10_get_7 : decode cX10_get 7 = .ok (.iload_n 2, 1) := by decide +kernel
theorem dX10_get_8 : decode cX10_get 8 = .ok (.iconst 0, 1) := by decide +kernel
theorem dX10_get_9 : decode cX10_get 9 = .ok (.iconst 2, 1) := by decide +kernel
theorem dX10_get_10 : decode cX10_get 10 = .ok (.invokestatic 77, 3) := by decide +kernel
theorem dX10_get_13 : decode cX10_get 13 = .ok (.ifCond .ne 7, 3) := by decide +kernel
theorem dX10_get_16 : decode cX10_get 16 = .ok (.ldc_w 278, 3) := by decide +kernel
theorem dX10_get_19 : decode cX10_get 19 = .ok (.ireturn, 1) := by decide +kernel
theorem dX10_get_20 : decode cX10_get 20 = .ok (.aload_n 0, 1) := by decide +kernel
theorem dX10_get_21 : decode cX10_get 21 = .ok (.iload_n 1, 1) := by decide +kernel
theorem dX10_get_22 : decode cX10_get 22 = .ok (.iload_n 2, 1) := by decide +kernel
theorem dX10_get_23 : decode cX10_get 23 = .ok (.iload_n 3, 1) := by decide +kernel
theorem dX10_get_24 : decode cX10_get 24 = .ok (.invokevirtual 270, 3) := by decide +kernel
theorem dX10_get_27 : decode cX10_get 27 = .ok (.istore 4, 2) := by decide +kernel
theorem dX10_get_29 : decode cX10_get 29 = .ok (.iload 4, 2) := by decide +kernel
theorem dX10_get_31 : decode cX10_get 31 = .ok (.ifCond .le 13, 3) := by decide +kernel
theorem dX10_get_34 : decode cX10_get 34 = .ok (.aload_n 0, 1) := by decide +kernel
theorem dX10_get_35 : decode cX10_get 35 = .ok (.iload 4, 2) := by decide +kernel
theorem dX10_get_37 : decode cX10_get 37 = .ok (.putfield 267, 3) := by decide +kernel
theorem dX10_get_40 : decode cX10_get 40 = .ok (.ldc_w 278, 3) := by decide +kernel
theorem dX10_get_43 : decode cX10_get 43 = .ok (.ireturn, 1) := by decide +kernel
theorem dX10_get_44 : decode cX10_get 44 = .ok (.aload_n 0, 1) := by decide +kernel
theorem dX10_get_45 : decode cX10_get 45 = .ok (.getfield 71, 3) := by decide +kernel
theorem dX10_get_48 : decode cX10_get 48 = .ok (.bipush 60, 2) := by decide +kernel
theorem dX10_get_50 : decode cX10_get 50 = .ok (.iload_n 1, 1) := by decide +kernel
theorem dX10_get_51 : decode cX10_get 51 = .ok (.imul, 1) := by decide +kernel
theorem dX10_get_52 : decode cX10_get 52 = .ok (.iload_n 3, 1) := by decide +kernel
theorem dX10_get_53 : decode cX10_get 53 = .ok (.iadd, 1) := by decide +kernel
theorem dX10_get_54 : decode cX10_get 54 = .ok (.iaload, 1) := by decide +kernel
theorem dX10_get_55 : decode cX10_get 55 = .ok (.ireturn, 1) := by decide +kernel
theorem dX10_copy_0 : decode cX10_copy 0 = .ok (.iload_n 1, 1) := by decide +kernel
theorem dX10_copy_1 : decode cX10_copy 1 = .ok (.invokestatic 92, 3) := by decide +kernel
theorem dX10_copy_4 : decode cX10_copy 4 = .ok (.ifCond .eq 10, 3) := by decide +kernel
theorem dX10_copy_7 : decode cX10_copy 7 = .ok (.iload_n 3, 1) := by decide +kernel
theorem dX10_copy_8 : decode cX10_copy 8 = .ok (.invokestatic 92, 3) := by decide +kernel
theorem dX10_copy_11 : decode cX10_copy 11 = .ok (.ifCond .ne 6, 3) := by decide +kernel
theorem dX10_copy_14 : decode cX10_copy 14 = .ok (.bipush (-2), 2) := by decide +kernel
theorem dX10_copy_16 : decode cX10_copy 16 = .ok (.ireturn, 1) := by decide +kernel
theorem dX10_copy_17 : decode cX10_copy 17 = .ok (.aload_n 0, 1) := by decide +kernel
theorem dX10_copy_18 : decode cX10_copy 18 = .ok (.getfield 61, 3) := by decide +kernel
theorem dX10_copy_21 : decode cX10_copy 21 = .ok (.iload_n 1, 1) := by decide +kernel
theorem dX10_copy_22 : decode cX10_copy 22 = .ok (.baload, 1) := by decide +kernel
theorem dX10_copy_23 : decode cX10_copy 23 = .ok (.ifCond .eq 12, 3) := by decide +kernel
theorem dX10_copy_26 : decode cX10_copy 26 = .ok (.aload_n 0, 1) := by decide +kernel
theorem dX10_copy_27 : decode cX10_copy 27 = .ok (.getfield 61, 3) := by decide +kernel
theorem dX10_copy_30 : decode cX10_copy 30 = .ok (.iload_n 3, 1) := by decide +kernel
theorem dX10_copy_31 : decode cX10_copy 31 = .ok (.baload, 1) := by decide +kernel
theorem dX10_copy_32 : decode cX10_copy 32 = .ok (.ifCond .ne 9, 3) := by decide +kernel
theorem dX10_copy_35 : decode cX10_copy 35 = .ok (.aload_n 0, 1) := by decide +kernel
theorem dX10_copy_36 : decode cX10_copy 36 = .ok (.iconst 1, 1) := by decide +kernel
theorem dX10_copy_37 : decode cX10_copy 37 = .ok (.invokevirtual 96, 3) := by decide +kernel
theorem dX10_copy_40 : decode cX10_copy 40 = .ok (.ireturn, 1) := by decide +kernel
theorem dX10_copy_41 : decode cX10_copy 41 = .ok (.aload_n 0, 1) := by decide +kernel
theorem dX10_copy_42 : decode cX10_copy 42 = .ok (.getfield 65, 3) := by decide +kernel
theorem dX10_copy_45 : decode cX10_copy 45 = .ok (.iload_n 1, 1) := by decide +kernel
theorem dX10_copy_46 : decode cX10_copy 46 = .ok (.iaload, 1) := by decide +kernel
theorem dX10_copy_47 : decode cX10_copy 47 = .ok (.aload_n 0, 1) := by decide +kernel
theorem dX10_copy_48 : decode cX10_copy 48 = .ok (.getfield 65, 3) := by decide +kernel
theorem dX10_copy_51 : decode cX10_copy 51 = .ok (.iload_n 3, 1) := by decide +kernel
theorem dX10_copy_52 : decode cX10_copy 52 = .ok (.iaload, 1) := by decide +kernel
theorem dX10_copy_53 : decode cX10_copy 53 = .ok (.if_icmp .eq 9, 3) := by decide +kernel
theorem dX10_copy_56 : decode cX10_copy 56 = .ok (.aload_n 0, 1) := by decide +kernel
theorem dX10_copy_57 : decode cX10_copy 57 = .ok (.iconst 4, 1) := by decide +kernel
theorem dX10_copy_58 : decode cX10_copy 58 = .ok (.invokevirtual 96, 3) := by decide +kernel
theorem dX10_copy_61 : decode cX10_copy 61 = .ok (.ireturn, 1) := by decide +kernel
theorem dX10_copy_62 : decode cX10_copy 62 = .ok (.iload_n 2, 1) := by decide +kernel
theorem dX10_copy_63 : decode cX10_copy 63 = .ok (.ifCond .lt 48, 3) := by decide +kernel
theorem dX10_copy_66 : decode cX10_copy 66 = .ok (.iload 4, 2) := by decide +kernel
theorem dX10_copy_68 : decode cX10_copy 68 = .ok (.ifCond .lt 43, 3) := by decide +kernel
theorem dX10_copy_71 : decode cX10_copy 71 = .ok (.iload 5, 2) := by decide +kernel
theorem dX10_copy_73 : decode cX10_copy 73 = .ok (.ifCond .lt 38, 3) := by decide +kernel
theorem dX10_copy_76 : decode cX10_copy 76 = .ok (.iload_n 2, 1) := by decide +kernel
theorem dX10_copy_77 : decode cX10_copy 77 = .ok (.i2l, 1) := by decide +kernel
theorem dX10_copy_78 : decode cX10_copy 78 = .ok (.iload 5, 2) := by decide +kernel
theorem dX10_copy_80 : decode cX10_copy 80 = .ok (.i2l, 1) := by decide +kernel
theorem dX10_copy_81 : decode cX10_copy 81 = .ok (.ladd, 1) := by decide +kernel
theorem dX10_copy_82 : decode cX10_copy 82 = .ok (.aload_n 0, 1) := by decide +kernel
theorem dX10_copy_83 : decode cX10_copy 83 = .ok (.getfield 68, 3) := by decide +kernel
theorem dX10_copy_86 : decode cX10_copy 86 = .ok (.iload_n 1, 1) := by decide +kernel
theorem dX10_copy_87 : decode cX10_copy 87 = .ok (.iaload, 1) := by decide +kernel
theorem dX10_copy_88 : decode cX10_copy 88 = .ok (.i2l, 1) := by decide +kernel
theorem dX10_copy_89 : decode cX10_copy 89 = .ok (.lcmp, 1) := by decide +kernel
theorem dX10_copy_90 : decode cX10_copy 90 = .ok (.ifCond .gt 21, 3) := by decide +kernel
theorem dX10_copy_93 : decode cX10_copy 93 = .ok (.iload 4, 2) := by decide +kernel
theorem dX10_copy_95 : decode cX10_copy 95 = .ok (.i2l, 1) := by decide +kernel
theorem dX10_copy_96 : decode cX10_copy 96 = .ok (.iload 5, 2) := by decide +kernel
theorem dX10_copy_98 : decode cX10_copy 98 = .ok (.i2l, 1) := by decide +kernel
theorem dX10_copy_99 : decode cX10_copy 99 = .ok (.ladd, 1) := by decide +kernel
theorem dX10_copy_100 : decode cX10_copy 100 = .ok (.aload_n 0, 1) := by decide +kernel
theorem dX10_copy_101 : decode cX10_copy 101 = .ok (.getfield 68, 3) := by decide +kernel
theorem dX10_copy_104 : decode cX10_copy 104 = .ok (.iload_n 3, 1) := by decide +kernel
theorem dX10_copy_105 : decode cX10_copy 105 = .ok (.iaload, 1) := by decide +kernel
theorem dX10_copy_106 : decode cX10_copy 106 = .ok (.i2l, 1) := by decide +kernel
theorem dX10_copy_107 : decode cX10_copy 107 = .ok (.lcmp, 1) := by decide +kernel
theorem dX10_copy_108 : decode cX10_copy 108 = .ok (.ifCond .le 9, 3) := by decide +kernel
theorem dX10_copy_111 : decode cX10_copy 111 = .ok (.aload_n 0, 1) := by decide +kernel
theorem dX10_copy_112 : decode cX10_copy 112 = .ok (.iconst 2, 1) := by decide +kernel
theorem dX10_copy_113 : decode cX10_copy 113 = .ok (.invokevirtual 96, 3) := by decide +kernel
theorem dX10_copy_116 : decode cX10_copy 116 = .ok (.ireturn, 1) := by decide +kernel
theorem dX10_copy_117 : decode cX10_copy 117 = .ok (.iconst 0, 1) := by decide +kernel
theorem dX10_copy_118 : decode cX10_copy 118 = .ok (.istore 6, 2) := by decide +kernel
theorem dX10_copy_120 : decode cX10_copy 120 = .ok (.iload 6, 2) := by decide +kernel
theorem dX10_copy_122 : decode cX10_copy 122 = .ok (.iload 5, 2) := by decide +kernel
theorem dX10_copy_124 : decode cX10_copy 124 = .ok (.if_icmp .ge 30, 3) := by decide +kernel
theorem dX10_copy_127 : decode cX10_copy 127 = .ok (.aload_n 0, 1) := by decide +kernel
theorem dX10_copy_128 : decode cX10_copy 128 = .ok (.getfield 74, 3) := by decide +kernel
theorem dX10_copy_131 : decode cX10_copy 131 = .ok (.iload 6, 2) := by decide +kernel
theorem dX10_copy_133 : decode cX10_copy 133 = .ok (.aload_n 0, 1) := by decide +kernel
theorem dX10_copy_134 : decode cX10_copy 134 = .ok (.getfield 71, 3) := by decide +kernel
theorem dX10_copy_137 : decode cX10_copy 137 = .ok (.bipush 60, 2) := by decide +kernel
theorem dX10_copy_139 : decode cX10_copy 139 = .ok (.iload_n 1, 1) := by decide +kernel
theorem dX10_copy_140 : decode cX10_copy 140 = .ok (.imul, 1) := by decide +kernel
theorem dX10_copy_141 : decode cX10_copy 141 = .ok (.iload_n 2, 1) := by decide +kernel
theorem dX10_copy_142 : decode cX10_copy 142 = .ok (.iadd, 1) := by decide +kernel
theorem dX10_copy_143 : decode cX10_copy 143 = .ok (.iload 6, 2) := by decide +kernel
theorem dX10_copy_145 : decode cX10_copy 145 = .ok (.iadd, 1) := by decide +kernel
theorem dX10_copy_146 : decode cX10_copy 146 = .ok (.iaload, 1) := by decide +kernel
theorem dX10_copy_147 : decode cX10_copy 147 = .ok (.iastore, 1) := by decide +kernel
theorem dX10_copy_148 : decode cX10_copy 148 = .ok (.iinc 6 1, 3) := by decide +kernel
theorem dX10_copy_151 : decode cX10_copy 151 = .ok (.goto (-31), 3) := by decide +kernel
theorem dX10_copy_154 : decode cX10_copy 154 = .ok (.iconst 0, 1) := by decide +kernel
theorem dX10_copy_155 : decode cX10_copy 155 = .ok (.istore 6, 2) := by decide +kernel
theorem dX10_copy_157 : decode cX10_copy 157 = .ok (.iload 6, 2) := by decide +kernel
theorem dX10_copy_159 : decode cX10_copy 159 = .ok (.iload 5, 2) := by decide +kernel
theorem dX10_copy_161 : decode cX10_copy 161 = .ok (.if_icmp .ge 31, 3) := by decide +kernel
theorem dX10_copy_164 : decode cX10_copy 164 = .ok (.aload_n 0, 1) := by decide +kernel
theorem dX10_copy_165 : decode cX10_copy 165 = .ok (.getfield 71, 3) := by decide +kernel
theorem dX10_copy_168 : decode cX10_copy 168 = .ok (.bipush 60, 2) := by decide +kernel
theorem dX10_copy_170 : decode cX10_copy 170 = .ok (.iload_n 3, 1) := by decide +kernel
theorem dX10_copy_171 : decode cX10_copy 171 = .ok (.imul, 1) := by decide +kernel
theorem dX10_copy_172 : decode cX10_copy 172 = .ok (.iload 4, 2) := by decide +kernel
theorem dX10_copy_174 : decode cX10_copy 174 = .ok (.iadd, 1) := by decide +kernel
theorem dX10_copy_175 : decode cX10_copy 175 = .ok (.iload 6, 2) := by decide +kernel
theorem dX10_copy_177 : decode cX10_copy 177 = .ok (.iadd, 1) := by decide +kernel
theorem dX10_copy_178 : decode cX10_copy 178 = .ok (.aload_n 0, 1) := by decide +kernel
theorem dX10_copy_179 : decode cX10_copy 179 = .ok (.getfield 74, 3) := by decide +kernel
theorem dX10_copy_182 : decode cX10_copy 182 = .ok (.iload 6, 2) := by decide +kernel
theorem dX10_copy_184 : decode cX10_copy 184 = .ok (.iaload, 1) := by decide +kernel
theorem dX10_copy_185 : decode cX10_copy 185 = .ok (.iastore, 1) := by decide +kernel
theorem dX10_copy_186 : decode cX10_copy 186 = .ok (.iinc 6 1, 3) := by decide +kernel
theorem dX10_copy_189 : decode cX10_copy 189 = .ok (.goto (-32), 3) := by decide +kernel
theorem dX10_copy_192 : decode cX10_copy 192 = .ok (.iconst 1, 1) := by decide +kernel
theorem dX10_copy_193 : decode cX10_copy 193 = .ok (.ireturn, 1) := by decide +kernel
theorem dX10_write_0 : decode cX10_write 0 = .ok (.iload_n 1, 1) := by decide +kernel
theorem dX10_write_1 : decode cX10_write 1 = .ok (.invokestatic 234, 3) := by decide +kernel
theorem dX10_write_4 : decode cX10_write 4 = .ok (.ifCond .eq 10, 3) := by decide +kernel
theorem dX10_write_7 : decode cX10_write 7 = .ok (.iload_n 2, 1) := by decide +kernel
theorem dX10_write_8 : decode cX10_write 8 = .ok (.invokestatic 92, 3) := by decide +kernel
theorem dX10_write_11 : decode cX10_write 11 = .ok (.ifCond .ne 6, 3) := by decide +kernel
theorem dX10_write_14 : decode cX10_write 14 = .ok (.bipush (-2), 2) := by decide +kernel
theorem dX10_write_16 : decode cX10_write 16 = .ok (.ireturn, 1) := by decide +kernel
theorem dX10_write_17 : decode cX10_write 17 = .ok (.aload_n 0, 1) := by decide +kernel
theorem dX10_write_18 : decode cX10_write 18 = .ok (.getfield 61, 3) := by decide +kernel
theorem dX10_write_21 : decode cX10_write 21 = .ok (.iload_n 2, 1) := by decide +kernel
theorem dX10_write_22 : decode cX10_write 22 = .ok (.baload, 1) := by decide +kernel
theorem dX10_write_23 : decode cX10_write 23 = .ok (.ifCond .ne 9, 3) := by decide +kernel
theorem dX10_write_26 : decode cX10_write 26 = .ok (.aload_n 0, 1) := by decide +kernel
theorem dX10_write_27 : decode cX10_write 27 = .ok (.iconst 1, 1) := by decide +kernel
theorem dX10_write_28 : decode cX10_write 28 = .ok (.invokevirtual 96, 3) := by decide +kernel
theorem dX10_write_31 : decode cX10_write 31 = .ok (.ireturn, 1) := by decide +kernel
theorem dX10_write_32 : decode cX10_write 32 = .ok (.aload_n 0, 1) := by decide +kernel
theorem dX10_write_33 : decode cX10_write 33 = .ok (.invokevirtual 228, 3) := by decide +kernel
theorem dX10_write_36 : decode cX10_write 36 = .ok (.iconst 0, 1) := by decide +kernel
theorem dX10_write_37 : decode cX10_write 37 = .ok (.istore_n 3, 1) := by decide +kernel
theorem dX10_write_38 : decode cX10_write 38 = .ok (.aload_n 0, 1) := by decide +kernel
theorem dX10_write_39 : decode cX10_write 39 = .ok (.iload_n 1, 1) := by decide +kernel
theorem dX10_write_40 : decode cX10_write 40 = .ok (.invokevirtual 231, 3) := by decide +kernel
theorem dX10_write_43 : decode cX10_write 43 = .ok (.iconst (-1), 1) := by decide +kernel
theorem dX10_write_44 : decode cX10_write 44 = .ok (.if_icmp .eq 36, 3) := by decide +kernel
theorem dX10_write_47 : decode cX10_write 47 = .ok (.iload_n 3, 1) := by decide +kernel
theorem dX10_write_48 : decode cX10_write 48 = .ok (.aload_n 0, 1) := by decide +kernel
theorem dX10_write_49 : decode cX10_write 49 = .ok (.getfield 68, 3) := by decide +kernel
theorem dX10_write_52 : decode cX10_write 52 = .ok (.iload_n 2, 1) := by decide +kernel
theorem dX10_write_53 : decode cX10_write 53 = .ok (.iaload, 1) := by decide +kernel
theorem dX10_write_54 : decode cX10_write 54 = .ok (.if_icmp .ge 26, 3) := by decide +kernel
theorem dX10_write_57 : decode cX10_write 57 = .ok (.iload_n 3, 1) := by decide +kernel
theorem dX10_write_58 : decode cX10_write 58 = .ok (.iload_n 1, 1) := by decide +kernel
theorem dX10_write_59 : decode cX10_write 59 = .ok (.if_icmp .ge 21, 3) := by decide +kernel
theorem dX10_write_62 : decode cX10_write 62 = .ok (.aload_n 0, 1) := by decide +kernel
theorem dX10_write_63 : decode cX10_write 63 = .ok (.iload_n 2, 1) := by decide +kernel
theorem dX10_write_64 : decode cX10_write 64 = .ok (.iload_n 3, 1) := by decide +kernel
theorem dX10_write_65 : decode cX10_write 65 = .ok (.aload_n 0, 1) := by decide +kernel
theorem dX10_write_66 : decode cX10_write 66 = .ok (.iload_n 1, 1) := by decide +kernel
theorem dX10_write_67 : decode cX10_write 67 = .ok (.iload_n 3, 1) := by decide +kernel
theorem dX10_write_68 : decode cX10_write 68 = .ok (.invokevirtual 240, 3) := by decide +kernel
theorem dX10_write_71 : decode cX10_write 71 = .ok (.invokevirtual 274, 3) := by decide +kernel
theorem dX10_write_74 : decode cX10_write 74 = .ok (.iinc 3 1, 3) := by decide +kernel
theorem dX10_write_77 : decode cX10_write 77 = .ok (.goto (-39), 3) := by decide +kernel
theorem dX10_write_80 : decode cX10_write 80 = .ok (.iload_n 3, 1) := by decide +kernel
theorem dX10_write_81 : decode cX10_write 81 = .ok (.ireturn, 1) := by decide +kernel
theorem dX10_tellOf_0 : decode cX10_tellOf 0 = .ok (.aload_n 0, 1) := by decide +kernel
theorem dX10_tellOf_1 : decode cX10_tellOf 1 = .ok (.invokevirtual 147, 3) := by decide +kernel
theorem dX10_tellOf_4 : decode cX10_tellOf 4 = .ok (.iload_n 1, 1) := by decide +kernel
theorem dX10_tellOf_5 : decode cX10_tellOf 5 = .ok (.iconst 1, 1) := by decide +kernel
theorem dX10_tellOf_6 : decode cX10_tellOf 6 = .ok (.if_icmp .ne 10, 3) := by decide +kernel
theorem dX10_tellOf_9 : decode cX10_tellOf 9 = .ok (.aload_n 0, 1) := by decide +kernel
theorem dX10_tellOf_10 : decode cX10_tellOf 10 = .ok (.getfield 109, 3) := by decide +kernel
theorem dX10_tellOf_13 : decode cX10_tellOf 13 = .ok (.goto 19, 3) := by decide +kernel
theorem dX10_tellOf_16 : decode cX10_tellOf 16 = .ok (.iload_n 1, 1) := by decide +kernel
theorem dX10_tellOf_17 : decode cX10_tellOf 17 = .ok (.iconst 2, 1) := by decide +kernel
theorem dX10_tellOf_18 : decode cX10_tellOf 18 = .ok (.if_icmp .ne 10, 3) := by decide +kernel
theorem dX10_tellOf_21 : decode cX10_tellOf 21 = .ok (.aload_n 0, 1) := by decide +kernel
theorem dX10_tellOf_22 : decode cX10_tellOf 22 = .ok (.getfield 115, 3) := by decide +kernel
theorem dX10_tellOf_25 : decode cX10_tellOf 25 = .ok (.goto 7, 3) := by decide +kernel
theorem dX10_tellOf_28 : decode cX10_tellOf 28 = .ok (.aload_n 0, 1) := by decide +kernel
theorem dX10_tellOf_29 : decode cX10_tellOf 29 = .ok (.getfield 135, 3) := by decide +kernel
theorem dX10_tellOf_32 : decode cX10_tellOf 32 = .ok (.ireturn, 1) := by decide +kernel
theorem dX10_count_0 : decode cX10_count 0 = .ok (.iload_n 1, 1) := by decide +kernel
theorem dX10_count_1 : decode cX10_count 1 = .ok (.tableswitch 91 0 8 #[51, 56, 56, 56, 62, 67, 74, 81, 86], 51) := by decide +kernel
theorem dX10_count_52 : decode cX10_count 52 = .ok (.aload_n 0, 1) := by decide +kernel
theorem dX10_count_53 : decode cX10_count 53 = .ok (.getfield 81, 3) := by decide +kernel
theorem dX10_count_56 : decode cX10_count 56 = .ok (.ireturn, 1) := by decide +kernel
theorem dX10_count_57 : decode cX10_count 57 = .ok (.aload_n 0, 1) := by decide +kernel
theorem dX10_count_58 : decode cX10_count 58 = .ok (.iload_n 1, 1) := by decide +kernel
theorem dX10_count_59 : decode cX10_count 59 = .ok (.invokevirtual 279, 3) := by decide +kernel
theorem dX10_count_62 : decode cX10_count 62 = .ok (.ireturn, 1) := by decide +kernel
theorem dX10_count_63 : decode cX10_count 63 = .ok (.aload_n 0, 1) := by decide +kernel
theorem dX10_count_64 : decode cX10_count 64 = .ok (.invokevirtual 194, 3) := by decide +kernel
theorem dX10_count_67 : decode cX10_count 67 = .ok (.ireturn, 1) := by decide +kernel
theorem dX10_count_68 : decode cX10_count 68 = .ok (.aload_n 0, 1) := by decide +kernel
theorem dX10_count_69 : decode cX10_count 69 = .ok (.getfield 13, 3) := by decide +kernel
theorem dX10_count_72 : decode cX10_count 72 = .ok (.iconst 0, 1) := by decide +kernel
theorem dX10_count_73 : decode cX10_count 73 = .ok (.iaload, 1) := by decide +kernel
theorem dX10_count_74 : decode cX10_count 74 = .ok (.ireturn, 1) := by decide +kernel
theorem dX10_count_75 : decode cX10_count 75 = .ok (.aload_n 0, 1) := by decide +kernel
theorem dX10_count_76 : decode cX10_count 76 = .ok (.getfield 13, 3) := by decide +kernel
theorem dX10_count_79 : decode cX10_count 79 = .ok (.iconst 1, 1) := by decide +kernel
theorem dX10_count_80 : decode cX10_count 80 = .ok (.iaload, 1) := by decide +kernel
theorem dX10_count_81 : decode cX10_count 81 = .ok (.ireturn, 1) := by decide +kernel
theorem dX10_count_82 : decode cX10_count 82 = .ok (.aload_n 0, 1) := by decide +kernel
theorem dX10_count_83 : decode cX10_count 83 = .ok (.getfield 89, 3) := by decide +kernel
theorem dX10_count_86 : decode cX10_count 86 = .ok (.ireturn, 1) := by decide +kernel
theorem dX10_count_87 : decode cX10_count 87 = .ok (.aload_n 0, 1) := by decide +kernel
theorem dX10_count_88 : decode cX10_count 88 = .ok (.getfield 267, 3) := by decide +kernel
theorem dX10_count_91 : decode cX10_count 91 = .ok (.ireturn, 1) := by decide +kernel
theorem dX10_count_92 : decode cX10_count 92 = .ok (.bipush (-2), 2) := by decide +kernel
theorem dX10_count_94 : decode cX10_count 94 = .ok (.ireturn, 1) := by decide +kernel
theorem dX10_sentenceDigest_0 : decode cX10_sentenceDigest 0 = .ok (.lload_n 1, 1) := by decide +kernel
theorem dX10_sentenceDigest_1 : decode cX10_sentenceDigest 1 = .ok (.lstore 4, 2) := by decide +kernel
theorem dX10_sentenceDigest_3 : decode cX10_sentenceDigest 3 = .ok (.iconst 0, 1) := by decide +kernel
theorem dX10_sentenceDigest_4 : decode cX10_sentenceDigest 4 = .ok (.istore 6, 2) := by decide +kernel
theorem dX10_sentenceDigest_6 : decode cX10_sentenceDigest 6 = .ok (.iload 6, 2) := by decide +kernel
theorem dX10_sentenceDigest_8 : decode cX10_sentenceDigest 8 = .ok (.iconst 4, 1) := by decide +kernel
theorem dX10_sentenceDigest_9 : decode cX10_sentenceDigest 9 = .ok (.if_icmp .ge 26, 3) := by decide +kernel
theorem dX10_sentenceDigest_12 : decode cX10_sentenceDigest 12 = .ok (.ldc2_w 282, 3) := by decide +kernel
theorem dX10_sentenceDigest_15 : decode cX10_sentenceDigest 15 = .ok (.lload 4, 2) := by decide +kernel
theorem dX10_sentenceDigest_17 : decode cX10_sentenceDigest 17 = .ok (.lmul, 1) := by decide +kernel
theorem dX10_sentenceDigest_18 : decode cX10_sentenceDigest 18 = .ok (.aload_n 0, 1) := by decide +kernel
theorem dX10_sentenceDigest_19 : decode cX10_sentenceDigest 19 = .ok (.iload_n 3, 1) := by decide +kernel
theorem dX10_sentenceDigest_20 : decode cX10_sentenceDigest 20 = .ok (.iload 6, 2) := by decide +kernel
theorem dX10_sentenceDigest_22 : decode cX10_sentenceDigest 22 = .ok (.invokevirtual 284, 3) := by decide +kernel
theorem dX10_sentenceDigest_25 : decode cX10_sentenceDigest 25 = .ok (.i2l, 1) := by decide +kernel
theorem dX10_sentenceDigest_26 : decode cX10_sentenceDigest 26 = .ok (.ladd, 1) := by decide +kernel
theorem dX10_sentenceDigest_27 : decode cX10_sentenceDigest 27 = .ok (.lstore 4, 2) := by decide +kernel
theorem dX10_sentenceDigest_29 : decode cX10_sentenceDigest 29 = .ok (.iinc 6 1, 3) := by decide +kernel
theorem dX10_sentenceDigest_32 : decode cX10_sentenceDigest 32 = .ok (.goto (-26), 3) := by decide +kernel
theorem dX10_sentenceDigest_35 : decode cX10_sentenceDigest 35 = .ok (.ldc2_w 282, 3) := by decide +kernel
theorem dX10_sentenceDigest_38 : decode cX10_sentenceDigest 38 = .ok (.lload 4, 2) := by decide +kernel
theorem dX10_sentenceDigest_40 : decode cX10_sentenceDigest 40 = .ok (.lmul, 1) := by decide +kernel
theorem dX10_sentenceDigest_41 : decode cX10_sentenceDigest 41 = .ok (.aload_n 0, 1) := by decide +kernel
theorem dX10_sentenceDigest_42 : decode cX10_sentenceDigest 42 = .ok (.iload_n 3, 1) := by decide +kernel
theorem dX10_sentenceDigest_43 : decode cX10_sentenceDigest 43 = .ok (.iconst 0, 1) := by decide +kernel
theorem dX10_sentenceDigest_44 : decode cX10_sentenceDigest 44 = .ok (.invokevirtual 287, 3) := by decide +kernel
theorem dX10_sentenceDigest_47 : decode cX10_sentenceDigest 47 = .ok (.i2l, 1) := by decide +kernel
theorem dX10_sentenceDigest_48 : decode cX10_sentenceDigest 48 = .ok (.ladd, 1) := by decide +kernel
theorem dX10_sentenceDigest_49 : decode cX10_sentenceDigest 49 = .ok (.lstore 4, 2) := by decide +kernel
theorem dX10_sentenceDigest_51 : decode cX10_sentenceDigest 51 = .ok (.ldc2_w 282, 3) := by decide +kernel
theorem dX10_sentenceDigest_54 : decode cX10_sentenceDigest 54 = .ok (.lload 4, 2) := by decide +kernel
theorem dX10_sentenceDigest_56 : decode cX10_sentenceDigest 56 = .ok (.lmul, 1) := by decide +kernel
theorem dX10_sentenceDigest_57 : decode cX10_sentenceDigest 57 = .ok (.aload_n 0, 1) := by decide +kernel
theorem dX10_sentenceDigest_58 : decode cX10_sentenceDigest 58 = .ok (.iload_n 3, 1) := by decide +kernel
theorem dX10_sentenceDigest_59 : decode cX10_sentenceDigest 59 = .ok (.iconst 2, 1) := by decide +kernel
theorem dX10_sentenceDigest_60 : decode cX10_sentenceDigest 60 = .ok (.invokevirtual 287, 3) := by decide +kernel
theorem dX10_sentenceDigest_63 : decode cX10_sentenceDigest 63 = .ok (.i2l, 1) := by decide +kernel
theorem dX10_sentenceDigest_64 : decode cX10_sentenceDigest 64 = .ok (.ladd, 1) := by decide +kernel
theorem dX10_sentenceDigest_65 : decode cX10_sentenceDigest 65 = .ok (.lstore 4, 2) := by decide +kernel
theorem dX10_sentenceDigest_67 : decode cX10_sentenceDigest 67 = .ok (.ldc2_w 282, 3) := by decide +kernel
theorem dX10_sentenceDigest_70 : decode cX10_sentenceDigest 70 = .ok (.lload 4, 2) := by decide +kernel
theorem dX10_sentenceDigest_72 : decode cX10_sentenceDigest 72 = .ok (.lmul, 1) := by decide +kernel
theorem dX10_sentenceDigest_73 : decode cX10_sentenceDigest 73 = .ok (.aload_n 0, 1) := by decide +kernel
theorem dX10_sentenceDigest_74 : decode cX10_sentenceDigest 74 = .ok (.iload_n 3, 1) := by decide +kernel
theorem dX10_sentenceDigest_75 : decode cX10_sentenceDigest 75 = .ok (.iconst 0, 1) := by decide +kernel
theorem dX10_sentenceDigest_76 : decode cX10_sentenceDigest 76 = .ok (.invokevirtual 290, 3) := by decide +kernel
theorem dX10_sentenceDigest_79 : decode cX10_sentenceDigest 79 = .ok (.i2l, 1) := by decide +kernel
theorem dX10_sentenceDigest_80 : decode cX10_sentenceDigest 80 = .ok (.ladd, 1) := by decide +kernel
theorem dX10_sentenceDigest_81 : decode cX10_sentenceDigest 81 = .ok (.lstore 4, 2) := by decide +kernel
theorem dX10_sentenceDigest_83 : decode cX10_sentenceDigest 83 = .ok (.ldc2_w 282, 3) := by decide +kernel
theorem dX10_sentenceDigest_86 : decode cX10_sentenceDigest 86 = .ok (.lload 4, 2) := by decide +kernel
theorem dX10_sentenceDigest_88 : decode cX10_sentenceDigest 88 = .ok (.lmul, 1) := by decide +kernel
theorem dX10_sentenceDigest_89 : decode cX10_sentenceDigest 89 = .ok (.aload_n 0, 1) := by decide +kernel
theorem dX10_sentenceDigest_90 : decode cX10_sentenceDigest 90 = .ok (.iload_n 3, 1) := by decide +kernel
theorem dX10_sentenceDigest_91 : decode cX10_sentenceDigest 91 = .ok (.iconst 1, 1) := by decide +kernel
theorem dX10_sentenceDigest_92 : decode cX10_sentenceDigest 92 = .ok (.invokevirtual 290, 3) := by decide +kernel
theorem dX10_sentenceDigest_95 : decode cX10_sentenceDigest 95 = .ok (.i2l, 1) := by decide +kernel
theorem dX10_sentenceDigest_96 : decode cX10_sentenceDigest 96 = .ok (.ladd, 1) := by decide +kernel
theorem dX10_sentenceDigest_97 : decode cX10_sentenceDigest 97 = .ok (.lstore 4, 2) := by decide +kernel
theorem dX10_sentenceDigest_99 : decode cX10_sentenceDigest 99 = .ok (.ldc2_w 282, 3) := by decide +kernel
theorem dX10_sentenceDigest_102 : decode cX10_sentenceDigest 102 = .ok (.lload 4, 2) := by decide +kernel
theorem dX10_sentenceDigest_104 : decode cX10_sentenceDigest 104 = .ok (.lmul, 1) := by decide +kernel
theorem dX10_sentenceDigest_105 : decode cX10_sentenceDigest 105 = .ok (.aload_n 0, 1) := by decide +kernel
theorem dX10_sentenceDigest_106 : decode cX10_sentenceDigest 106 = .ok (.iload_n 3, 1) := by decide +kernel
theorem dX10_sentenceDigest_107 : decode cX10_sentenceDigest 107 = .ok (.iconst 0, 1) := by decide +kernel
theorem dX10_sentenceDigest_108 : decode cX10_sentenceDigest 108 = .ok (.invokevirtual 293, 3) := by decide +kernel
theorem dX10_sentenceDigest_111 : decode cX10_sentenceDigest 111 = .ok (.i2l, 1) := by decide +kernel
theorem dX10_sentenceDigest_112 : decode cX10_sentenceDigest 112 = .ok (.ladd, 1) := by decide +kernel
theorem dX10_sentenceDigest_113 : decode cX10_sentenceDigest 113 = .ok (.lstore 4, 2) := by decide +kernel
theorem dX10_sentenceDigest_115 : decode cX10_sentenceDigest 115 = .ok (.ldc2_w 282, 3) := by decide +kernel
theorem dX10_sentenceDigest_118 : decode cX10_sentenceDigest 118 = .ok (.lload 4, 2) := by decide +kernel
theorem dX10_sentenceDigest_120 : decode cX10_sentenceDigest 120 = .ok (.lmul, 1) := by decide +kernel
theorem dX10_sentenceDigest_121 : decode cX10_sentenceDigest 121 = .ok (.aload_n 0, 1) := by decide +kernel
theorem dX10_sentenceDigest_122 : decode cX10_sentenceDigest 122 = .ok (.iload_n 3, 1) := by decide +kernel
theorem dX10_sentenceDigest_123 : decode cX10_sentenceDigest 123 = .ok (.iconst 1, 1) := by decide +kernel
theorem dX10_sentenceDigest_124 : decode cX10_sentenceDigest 124 = .ok (.invokevirtual 293, 3) := by decide +kernel
theorem dX10_sentenceDigest_127 : decode cX10_sentenceDigest 127 = .ok (.i2l, 1) := by decide +kernel
theorem dX10_sentenceDigest_128 : decode cX10_sentenceDigest 128 = .ok (.ladd, 1) := by decide +kernel
theorem dX10_sentenceDigest_129 : decode cX10_sentenceDigest 129 = .ok (.lstore 4, 2) := by decide +kernel
theorem dX10_sentenceDigest_131 : decode cX10_sentenceDigest 131 = .ok (.ldc2_w 282, 3) := by decide +kernel
theorem dX10_sentenceDigest_134 : decode cX10_sentenceDigest 134 = .ok (.lload 4, 2) := by decide +kernel
theorem dX10_sentenceDigest_136 : decode cX10_sentenceDigest 136 = .ok (.lmul, 1) := by decide +kernel
theorem dX10_sentenceDigest_137 : decode cX10_sentenceDigest 137 = .ok (.aload_n 0, 1) := by decide +kernel
theorem dX10_sentenceDigest_138 : decode cX10_sentenceDigest 138 = .ok (.iload_n 3, 1) := by decide +kernel
theorem dX10_sentenceDigest_139 : decode cX10_sentenceDigest 139 = .ok (.invokevirtual 296, 3) := by decide +kernel
theorem dX10_sentenceDigest_142 : decode cX10_sentenceDigest 142 = .ok (.i2l, 1) := by decide +kernel
theorem dX10_sentenceDigest_143 : decode cX10_sentenceDigest 143 = .ok (.ladd, 1) := by decide +kernel
theorem dX10_sentenceDigest_144 : decode cX10_sentenceDigest 144 = .ok (.lreturn, 1) := by decide +kernel
theorem dX10_stemDigest_0 : decode cX10_stemDigest 0 = .ok (.lload_n 1, 1) := by decide +kernel
theorem dX10_stemDigest_1 : decode cX10_stemDigest 1 = .ok (.lstore 4, 2) := by decide +kernel
theorem dX10_stemDigest_3 : decode cX10_stemDigest 3 = .ok (.iconst 0, 1) := by decide +kernel
theorem dX10_stemDigest_4 : decode cX10_stemDigest 4 = .ok (.istore 6, 2) := by decide +kernel
theorem dX10_stemDigest_6 : decode cX10_stemDigest 6 = .ok (.iload 6, 2) := by decide +kernel
theorem dX10_stemDigest_8 : decode cX10_stemDigest 8 = .ok (.iconst 4, 1) := by decide +kernel
theorem dX10_stemDigest_9 : decode cX10_stemDigest 9 = .ok (.if_icmp .ge 26, 3) := by decide +kernel
theorem dX10_stemDigest_12 : decode cX10_stemDigest 12 = .ok (.ldc2_w 282, 3) := by decide +kernel
theorem dX10_stemDigest_15 : decode cX10_stemDigest 15 = .ok (.lload 4, 2) := by decide +kernel
theorem dX10_stemDigest_17 : decode cX10_stemDigest 17 = .ok (.lmul, 1) := by decide +kernel
theorem dX10_stemDigest_18 : decode cX10_stemDigest 18 = .ok (.aload_n 0, 1) := by decide +kernel
theorem dX10_stemDigest_19 : decode cX10_stemDigest 19 = .ok (.iload_n 3, 1) := by decide +kernel
theorem dX10_stemDigest_20 : decode cX10_stemDigest 20 = .ok (.iload 6, 2) := by decide +kernel
theorem dX10_stemDigest_22 : decode cX10_stemDigest 22 = .ok (.invokevirtual 178, 3) := by decide +kernel
theorem dX10_stemDigest_25 : decode cX10_stemDigest 25 = .ok (.i2l, 1) := by decide +kernel
theorem dX10_stemDigest_26 : decode cX10_stemDigest 26 = .ok (.ladd, 1) := by decide +kernel
theorem dX10_stemDigest_27 : decode cX10_stemDigest 27 = .ok (.lstore 4, 2) := by decide +kernel
theorem dX10_stemDigest_29 : decode cX10_stemDigest 29 = .ok (.iinc 6 1, 3) := by decide +kernel
theorem dX10_stemDigest_32 : decode cX10_stemDigest 32 = .ok (.goto (-26), 3) := by decide +kernel
theorem dX10_stemDigest_35 : decode cX10_stemDigest 35 = .ok (.ldc2_w 282, 3) := by decide +kernel
theorem dX10_stemDigest_38 : decode cX10_stemDigest 38 = .ok (.lload 4, 2) := by decide +kernel
theorem dX10_stemDigest_40 : decode cX10_stemDigest 40 = .ok (.lmul, 1) := by decide +kernel
theorem dX10_stemDigest_41 : decode cX10_stemDigest 41 = .ok (.aload_n 0, 1) := by decide +kernel
theorem dX10_stemDigest_42 : decode cX10_stemDigest 42 = .ok (.iload_n 3, 1) := by decide +kernel
theorem dX10_stemDigest_43 : decode cX10_stemDigest 43 = .ok (.iconst 0, 1) := by decide +kernel
theorem dX10_stemDigest_44 : decode cX10_stemDigest 44 = .ok (.invokevirtual 181, 3) := by decide +kernel
theorem dX10_stemDigest_47 : decode cX10_stemDigest 47 = .ok (.i2l, 1) := by decide +kernel
theorem dX10_stemDigest_48 : decode cX10_stemDigest 48 = .ok (.ladd, 1) := by decide +kernel
theorem dX10_stemDigest_49 : decode cX10_stemDigest 49 = .ok (.lstore 4, 2) := by decide +kernel
theorem dX10_stemDigest_51 : decode cX10_stemDigest 51 = .ok (.ldc2_w 282, 3) := by decide +kernel
theorem dX10_stemDigest_54 : decode cX10_stemDigest 54 = .ok (.lload 4, 2) := by decide +kernel
theorem dX10_stemDigest_56 : decode cX10_stemDigest 56 = .ok (.lmul, 1) := by decide +kernel
theorem dX10_stemDigest_57 : decode cX10_stemDigest 57 = .ok (.aload_n 0, 1) := by decide +kernel
theorem dX10_stemDigest_58 : decode cX10_stemDigest 58 = .ok (.iload_n 3, 1) := by decide +kernel
theorem dX10_stemDigest_59 : decode cX10_stemDigest 59 = .ok (.iconst 3, 1) := by decide +kernel
theorem dX10_stemDigest_60 : decode cX10_stemDigest 60 = .ok (.invokevirtual 181, 3) := by decide +kernel
theorem dX10_stemDigest_63 : decode cX10_stemDigest 63 = .ok (.i2l, 1) := by decide +kernel
theorem dX10_stemDigest_64 : decode cX10_stemDigest 64 = .ok (.ladd, 1) := by decide +kernel
theorem dX10_stemDigest_65 : decode cX10_stemDigest 65 = .ok (.lreturn, 1) := by decide +kernel
theorem dX10_partsDigest_0 : decode cX10_partsDigest 0 = .ok (.ldc2_w 282, 3) := by decide +kernel
theorem dX10_partsDigest_3 : decode cX10_partsDigest 3 = .ok (.lload_n 1, 1) := by decide +kernel
theorem dX10_partsDigest_4 : decode cX10_partsDigest 4 = .ok (.lmul, 1) := by decide +kernel
theorem dX10_partsDigest_5 : decode cX10_partsDigest 5 = .ok (.aload_n 0, 1) := by decide +kernel
theorem dX10_partsDigest_6 : decode cX10_partsDigest 6 = .ok (.iload_n 3, 1) := by decide +kernel
theorem dX10_partsDigest_7 : decode cX10_partsDigest 7 = .ok (.invokevirtual 237, 3) := by decide +kernel
theorem dX10_partsDigest_10 : decode cX10_partsDigest 10 = .ok (.i2l, 1) := by decide +kernel
theorem dX10_partsDigest_11 : decode cX10_partsDigest 11 = .ok (.ladd, 1) := by decide +kernel
theorem dX10_partsDigest_12 : decode cX10_partsDigest 12 = .ok (.lstore 4, 2) := by decide +kernel
theorem dX10_partsDigest_14 : decode cX10_partsDigest 14 = .ok (.iconst 0, 1) := by decide +kernel
theorem dX10_partsDigest_15 : decode cX10_partsDigest 15 = .ok (.istore 6, 2) := by decide +kernel
theorem dX10_partsDigest_17 : decode cX10_partsDigest 17 = .ok (.iload 6, 2) := by decide +kernel
theorem dX10_partsDigest_19 : decode cX10_partsDigest 19 = .ok (.bipush 8, 2) := by decide +kernel
theorem dX10_partsDigest_21 : decode cX10_partsDigest 21 = .ok (.if_icmp .ge 26, 3) := by decide +kernel
theorem dX10_partsDigest_24 : decode cX10_partsDigest 24 = .ok (.ldc2_w 282, 3) := by decide +kernel
theorem dX10_partsDigest_27 : decode cX10_partsDigest 27 = .ok (.lload 4, 2) := by decide +kernel
theorem dX10_partsDigest_29 : decode cX10_partsDigest 29 = .ok (.lmul, 1) := by decide +kernel
theorem dX10_partsDigest_30 : decode cX10_partsDigest 30 = .ok (.aload_n 0, 1) := by decide +kernel
theorem dX10_partsDigest_31 : decode cX10_partsDigest 31 = .ok (.iload_n 3, 1) := by decide +kernel
theorem dX10_partsDigest_32 : decode cX10_partsDigest 32 = .ok (.iload 6, 2) := by decide +kernel
theorem dX10_partsDigest_34 : decode cX10_partsDigest 34 = .ok (.invokevirtual 243, 3) := by decide +kernel
theorem dX10_partsDigest_37 : decode cX10_partsDigest 37 = .ok (.i2l, 1) := by decide +kernel
theorem dX10_partsDigest_38 : decode cX10_partsDigest 38 = .ok (.ladd, 1) := by decide +kernel
theorem dX10_partsDigest_39 : decode cX10_partsDigest 39 = .ok (.lstore 4, 2) := by decide +kernel
theorem dX10_partsDigest_41 : decode cX10_partsDigest 41 = .ok (.iinc 6 1, 3) := by decide +kernel
theorem dX10_partsDigest_44 : decode cX10_partsDigest 44 = .ok (.goto (-27), 3) := by decide +kernel
theorem dX10_partsDigest_47 : decode cX10_partsDigest 47 = .ok (.ldc2_w 282, 3) := by decide +kernel
theorem dX10_partsDigest_50 : decode cX10_partsDigest 50 = .ok (.lload 4, 2) := by decide +kernel
theorem dX10_partsDigest_52 : decode cX10_partsDigest 52 = .ok (.lmul, 1) := by decide +kernel
theorem dX10_partsDigest_53 : decode cX10_partsDigest 53 = .ok (.aload_n 0, 1) := by decide +kernel
theorem dX10_partsDigest_54 : decode cX10_partsDigest 54 = .ok (.iload_n 3, 1) := by decide +kernel
theorem dX10_partsDigest_55 : decode cX10_partsDigest 55 = .ok (.iconst 0, 1) := by decide +kernel
theorem dX10_partsDigest_56 : decode cX10_partsDigest 56 = .ok (.invokevirtual 249, 3) := by decide +kernel
theorem dX10_partsDigest_59 : decode cX10_partsDigest 59 = .ok (.i2l, 1) := by decide +kernel
theorem dX10_partsDigest_60 : decode cX10_partsDigest 60 = .ok (.ladd, 1) := by decide +kernel
theorem dX10_partsDigest_61 : decode cX10_partsDigest 61 = .ok (.lstore 4, 2) := by decide +kernel
theorem dX10_partsDigest_63 : decode cX10_partsDigest 63 = .ok (.ldc2_w 282, 3) := by decide +kernel
theorem dX10_partsDigest_66 : decode cX10_partsDigest 66 = .ok (.lload 4, 2) := by decide +kernel
theorem dX10_partsDigest_68 : decode cX10_partsDigest 68 = .ok (.lmul, 1) := by decide +kernel
theorem dX10_partsDigest_69 : decode cX10_partsDigest 69 = .ok (.aload_n 0, 1) := by decide +kernel
theorem dX10_partsDigest_70 : decode cX10_partsDigest 70 = .ok (.iload_n 3, 1) := by decide +kernel
theorem dX10_partsDigest_71 : decode cX10_partsDigest 71 = .ok (.iconst 1, 1) := by decide +kernel
theorem dX10_partsDigest_72 : decode cX10_partsDigest 72 = .ok (.invokevirtual 249, 3) := by decide +kernel
theorem dX10_partsDigest_75 : decode cX10_partsDigest 75 = .ok (.i2l, 1) := by decide +kernel
theorem dX10_partsDigest_76 : decode cX10_partsDigest 76 = .ok (.ladd, 1) := by decide +kernel
theorem dX10_partsDigest_77 : decode cX10_partsDigest 77 = .ok (.lstore 4, 2) := by decide +kernel
theorem dX10_partsDigest_79 : decode cX10_partsDigest 79 = .ok (.ldc2_w 282, 3) := by decide +kernel
theorem dX10_partsDigest_82 : decode cX10_partsDigest 82 = .ok (.lload 4, 2) := by decide +kernel
theorem dX10_partsDigest_84 : decode cX10_partsDigest 84 = .ok (.lmul, 1) := by decide +kernel
theorem dX10_partsDigest_85 : decode cX10_partsDigest 85 = .ok (.aload_n 0, 1) := by decide +kernel
theorem dX10_partsDigest_86 : decode cX10_partsDigest 86 = .ok (.iload_n 3, 1) := by decide +kernel
theorem dX10_partsDigest_87 : decode cX10_partsDigest 87 = .ok (.iconst 1, 1) := by decide +kernel
theorem dX10_partsDigest_88 : decode cX10_partsDigest 88 = .ok (.invokevirtual 264, 3) := by decide +kernel
theorem dX10_partsDigest_91 : decode cX10_partsDigest 91 = .ok (.i2l, 1) := by decide +kernel
theorem dX10_partsDigest_92 : decode cX10_partsDigest 92 = .ok (.ladd, 1) := by decide +kernel
theorem dX10_partsDigest_93 : decode cX10_partsDigest 93 = .ok (.lstore 4, 2) := by decide +kernel
theorem dX10_partsDigest_95 : decode cX10_partsDigest 95 = .ok (.ldc2_w 282, 3) := by decide +kernel
theorem dX10_partsDigest_98 : decode cX10_partsDigest 98 = .ok (.lload 4, 2) := by decide +kernel
theorem dX10_partsDigest_100 : decode cX10_partsDigest 100 = .ok (.lmul, 1) := by decide +kernel
theorem dX10_partsDigest_101 : decode cX10_partsDigest 101 = .ok (.aload_n 0, 1) := by decide +kernel
theorem dX10_partsDigest_102 : decode cX10_partsDigest 102 = .ok (.iload_n 3, 1) := by decide +kernel
theorem dX10_partsDigest_103 : decode cX10_partsDigest 103 = .ok (.iconst 3, 1) := by decide +kernel
theorem dX10_partsDigest_104 : decode cX10_partsDigest 104 = .ok (.invokevirtual 264, 3) := by decide +kernel
theorem dX10_partsDigest_107 : decode cX10_partsDigest 107 = .ok (.i2l, 1) := by decide +kernel
theorem dX10_partsDigest_108 : decode cX10_partsDigest 108 = .ok (.ladd, 1) := by decide +kernel
theorem dX10_partsDigest_109 : decode cX10_partsDigest 109 = .ok (.lreturn, 1) := by decide +kernel
theorem dX10_digest_0 : decode cX10_digest 0 = .ok (.ldc2_w 299, 3) := by decide +kernel
theorem dX10_digest_3 : decode cX10_digest 3 = .ok (.lstore_n 1, 1) := by decide +kernel
theorem dX10_digest_4 : decode cX10_digest 4 = .ok (.iconst 0, 1) := by decide +kernel
theorem dX10_digest_5 : decode cX10_digest 5 = .ok (.istore_n 3, 1) := by decide +kernel
theorem dX10_digest_6 : decode cX10_digest 6 = .ok (.iload_n 3, 1) := by decide +kernel
theorem dX10_digest_7 : decode cX10_digest 7 = .ok (.bipush 8, 2) := by decide +kernel
theorem dX10_digest_9 : decode cX10_digest 9 = .ok (.if_icmp .ge 22, 3) := by decide +kernel
theorem dX10_digest_12 : decode cX10_digest 12 = .ok (.ldc2_w 282, 3) := by decide +kernel
theorem dX10_digest_15 : decode cX10_digest 15 = .ok (.lload_n 1, 1) := by decide +kernel
theorem dX10_digest_16 : decode cX10_digest 16 = .ok (.lmul, 1) := by decide +kernel
theorem dX10_digest_17 : decode cX10_digest 17 = .ok (.aload_n 0, 1) := by decide +kernel
theorem dX10_digest_18 : decode cX10_digest 18 = .ok (.iload_n 3, 1) := by decide +kernel
theorem dX10_digest_19 : decode cX10_digest 19 = .ok (.invokevirtual 301, 3) := by decide +kernel
theorem dX10_digest_22 : decode cX10_digest 22 = .ok (.i2l, 1) := by decide +kernel
theorem dX10_digest_23 : decode cX10_digest 23 = .ok (.ladd, 1) := by decide +kernel
theorem dX10_digest_24 : decode cX10_digest 24 = .ok (.lstore_n 1, 1) := by decide +kernel
theorem dX10_digest_25 : decode cX10_digest 25 = .ok (.iinc 3 1, 3) := by decide +kernel
theorem dX10_digest_28 : decode cX10_digest 28 = .ok (.goto (-22), 3) := by decide +kernel
theorem dX10_digest_31 : decode cX10_digest 31 = .ok (.iconst 0, 1) := by decide +kernel
theorem dX10_digest_32 : decode cX10_digest 32 = .ok (.istore_n 3, 1) := by decide +kernel
theorem dX10_digest_33 : decode cX10_digest 33 = .ok (.iload_n 3, 1) := by decide +kernel
theorem dX10_digest_34 : decode cX10_digest 34 = .ok (.iconst 3, 1) := by decide +kernel
theorem dX10_digest_35 : decode cX10_digest 35 = .ok (.if_icmp .ge 22, 3) := by decide +kernel
theorem dX10_digest_38 : decode cX10_digest 38 = .ok (.ldc2_w 282, 3) := by decide +kernel
theorem dX10_digest_41 : decode cX10_digest 41 = .ok (.lload_n 1, 1) := by decide +kernel
theorem dX10_digest_42 : decode cX10_digest 42 = .ok (.lmul, 1) := by decide +kernel
theorem dX10_digest_43 : decode cX10_digest 43 = .ok (.aload_n 0, 1) := by decide +kernel
theorem dX10_digest_44 : decode cX10_digest 44 = .ok (.iload_n 3, 1) := by decide +kernel
theorem dX10_digest_45 : decode cX10_digest 45 = .ok (.invokevirtual 150, 3) := by decide +kernel
theorem dX10_digest_48 : decode cX10_digest 48 = .ok (.i2l, 1) := by decide +kernel
theorem dX10_digest_49 : decode cX10_digest 49 = .ok (.ladd, 1) := by decide +kernel
theorem dX10_digest_50 : decode cX10_digest 50 = .ok (.lstore_n 1, 1) := by decide +kernel
theorem dX10_digest_51 : decode cX10_digest 51 = .ok (.iinc 3 1, 3) := by decide +kernel
theorem dX10_digest_54 : decode cX10_digest 54 = .ok (.goto (-21), 3) := by decide +kernel
theorem dX10_digest_57 : decode cX10_digest 57 = .ok (.iconst 0, 1) := by decide +kernel
theorem dX10_digest_58 : decode cX10_digest 58 = .ok (.istore_n 3, 1) := by decide +kernel
theorem dX10_digest_59 : decode cX10_digest 59 = .ok (.iload_n 3, 1) := by decide +kernel
theorem dX10_digest_60 : decode cX10_digest 60 = .ok (.bipush 12, 2) := by decide +kernel
theorem dX10_digest_62 : decode cX10_digest 62 = .ok (.if_icmp .ge 16, 3) := by decide +kernel
theorem dX10_digest_65 : decode cX10_digest 65 = .ok (.aload_n 0, 1) := by decide +kernel
theorem dX10_digest_66 : decode cX10_digest 66 = .ok (.lload_n 1, 1) := by decide +kernel
theorem dX10_digest_67 : decode cX10_digest 67 = .ok (.iload_n 3, 1) := by decide +kernel
theorem dX10_digest_68 : decode cX10_digest 68 = .ok (.invokevirtual 304, 3) := by decide +kernel
theorem dX10_digest_71 : decode cX10_digest 71 = .ok (.lstore_n 1, 1) := by decide +kernel
theorem dX10_digest_72 : decode cX10_digest 72 = .ok (.iinc 3 1, 3) := by decide +kernel
theorem dX10_digest_75 : decode cX10_digest 75 = .ok (.goto (-16), 3) := by decide +kernel
theorem dX10_digest_78 : decode cX10_digest 78 = .ok (.aload_n 0, 1) := by decide +kernel
theorem dX10_digest_79 : decode cX10_digest 79 = .ok (.invokevirtual 147, 3) := by decide +kernel
theorem dX10_digest_82 : decode cX10_digest 82 = .ok (.iconst 0, 1) := by decide +kernel
theorem dX10_digest_83 : decode cX10_digest 83 = .ok (.istore_n 3, 1) := by decide +kernel
theorem dX10_digest_84 : decode cX10_digest 84 = .ok (.iload_n 3, 1) := by decide +kernel
theorem dX10_digest_85 : decode cX10_digest 85 = .ok (.aload_n 0, 1) := by decide +kernel
theorem dX10_digest_86 : decode cX10_digest 86 = .ok (.getfield 135, 3) := by decide +kernel
theorem dX10_digest_89 : decode cX10_digest 89 = .ok (.if_icmp .ge 16, 3) := by decide +kernel
theorem dX10_digest_92 : decode cX10_digest 92 = .ok (.aload_n 0, 1) := by decide +kernel
theorem dX10_digest_93 : decode cX10_digest 93 = .ok (.lload_n 1, 1) := by decide +kernel
theorem dX10_digest_94 : decode cX10_digest 94 = .ok (.iload_n 3, 1) := by decide +kernel
theorem dX10_digest_95 : decode cX10_digest 95 = .ok (.invokevirtual 308, 3) := by decide +kernel
theorem dX10_digest_98 : decode cX10_digest 98 = .ok (.lstore_n 1, 1) := by decide +kernel
theorem dX10_digest_99 : decode cX10_digest 99 = .ok (.iinc 3 1, 3) := by decide +kernel
theorem dX10_digest_102 : decode cX10_digest 102 = .ok (.goto (-18), 3) := by decide +kernel
theorem dX10_digest_105 : decode cX10_digest 105 = .ok (.iconst 0, 1) := by decide +kernel
theorem dX10_digest_106 : decode cX10_digest 106 = .ok (.istore_n 3, 1) := by decide +kernel
theorem dX10_digest_107 : decode cX10_digest 107 = .ok (.iload_n 3, 1) := by decide +kernel
theorem dX10_digest_108 : decode cX10_digest 108 = .ok (.bipush 10, 2) := by decide +kernel
theorem dX10_digest_110 : decode cX10_digest 110 = .ok (.if_icmp .ge 39, 3) := by decide +kernel
theorem dX10_digest_113 : decode cX10_digest 113 = .ok (.iconst 0, 1) := by decide +kernel
theorem dX10_digest_114 : decode cX10_digest 114 = .ok (.istore 4, 2) := by decide +kernel
theorem dX10_digest_116 : decode cX10_digest 116 = .ok (.iload 4, 2) := by decide +kernel
theorem dX10_digest_118 : decode cX10_digest 118 = .ok (.iconst 5, 1) := by decide +kernel
theorem dX10_digest_119 : decode cX10_digest 119 = .ok (.if_icmp .ge 24, 3) := by decide +kernel
theorem dX10_digest_122 : decode cX10_digest 122 = .ok (.ldc2_w 282, 3) := by decide +kernel
theorem dX10_digest_125 : decode cX10_digest 125 = .ok (.lload_n 1, 1) := by decide +kernel
theorem dX10_digest_126 : decode cX10_digest 126 = .ok (.lmul, 1) := by decide +kernel
theorem dX10_digest_127 : decode cX10_digest 127 = .ok (.aload_n 0, 1) := by decide +kernel
theorem dX10_digest_128 : decode cX10_digest 128 = .ok (.iload_n 3, 1) := by decide +kernel
theorem dX10_digest_129 : decode cX10_digest 129 = .ok (.iload 4, 2) := by decide +kernel
theorem dX10_digest_131 : decode cX10_digest 131 = .ok (.invokevirtual 201, 3) := by decide +kernel
theorem dX10_digest_134 : decode cX10_digest 134 = .ok (.i2l, 1) := by decide +kernel
theorem dX10_digest_135 : decode cX10_digest 135 = .ok (.ladd, 1) := by decide +kernel
theorem dX10_digest_136 : decode cX10_digest 136 = .ok (.lstore_n 1, 1) := by decide +kernel
theorem dX10_digest_137 : decode cX10_digest 137 = .ok (.iinc 4 1, 3) := by decide +kernel
theorem dX10_digest_140 : decode cX10_digest 140 = .ok (.goto (-24), 3) := by decide +kernel
theorem dX10_digest_143 : decode cX10_digest 143 = .ok (.iinc 3 1, 3) := by decide +kernel
theorem dX10_digest_146 : decode cX10_digest 146 = .ok (.goto (-39), 3) := by decide +kernel
theorem dX10_digest_149 : decode cX10_digest 149 = .ok (.iconst 0, 1) := by decide +kernel
theorem dX10_digest_150 : decode cX10_digest 150 = .ok (.istore_n 3, 1) := by decide +kernel
theorem dX10_digest_151 : decode cX10_digest 151 = .ok (.iload_n 3, 1) := by decide +kernel
theorem dX10_digest_152 : decode cX10_digest 152 = .ok (.aload_n 0, 1) := by decide +kernel
theorem dX10_digest_153 : decode cX10_digest 153 = .ok (.getfield 109, 3) := by decide +kernel
theorem dX10_digest_156 : decode cX10_digest 156 = .ok (.if_icmp .ge 40, 3) := by decide +kernel
theorem dX10_digest_159 : decode cX10_digest 159 = .ok (.ldc2_w 282, 3) := by decide +kernel
theorem dX10_digest_162 : decode cX10_digest 162 = .ok (.lload_n 1, 1) := by decide +kernel
theorem dX10_digest_163 : decode cX10_digest 163 = .ok (.lmul, 1) := by decide +kernel
theorem dX10_digest_164 : decode cX10_digest 164 = .ok (.aload_n 0, 1) := by decide +kernel
theorem dX10_digest_165 : decode cX10_digest 165 = .ok (.iconst 0, 1) := by decide +kernel
theorem dX10_digest_166 : decode cX10_digest 166 = .ok (.iload_n 3, 1) := by decide +kernel
theorem dX10_digest_167 : decode cX10_digest 167 = .ok (.invokevirtual 216, 3) := by decide +kernel
theorem dX10_digest_170 : decode cX10_digest 170 = .ok (.i2l, 1) := by decide +kernel
theorem dX10_digest_171 : decode cX10_digest 171 = .ok (.ladd, 1) := by decide +kernel
theorem dX10_digest_172 : decode cX10_digest 172 = .ok (.lstore_n 1, 1) := by decide +kernel
theorem dX10_digest_173 : decode cX10_digest 173 = .ok (.ldc2_w 282, 3) := by decide +kernel
theorem dX10_digest_176 : decode cX10_digest 176 = .ok (.lload_n 1, 1) := by decide +kernel
theorem dX10_digest_177 : decode cX10_digest 177 = .ok (.lmul, 1) := by decide +kernel
theorem dX10_digest_178 : decode cX10_digest 178 = .ok (.aload_n 0, 1) := by decide +kernel
theorem dX10_digest_179 : decode cX10_digest 179 = .ok (.iload_n 3, 1) := by decide +kernel
theorem dX10_digest_180 : decode cX10_digest 180 = .ok (.aload_n 0, 1) := by decide +kernel
theorem dX10_digest_181 : decode cX10_digest 181 = .ok (.getfield 109, 3) := by decide +kernel
theorem dX10_digest_184 : decode cX10_digest 184 = .ok (.invokevirtual 216, 3) := by decide +kernel
theorem dX10_digest_187 : decode cX10_digest 187 = .ok (.i2l, 1) := by decide +kernel
theorem dX10_digest_188 : decode cX10_digest 188 = .ok (.ladd, 1) := by decide +kernel
theorem dX10_digest_189 : decode cX10_digest 189 = .ok (.lstore_n 1, 1) := by decide +kernel
theorem dX10_digest_190 : decode cX10_digest 190 = .ok (.iinc 3 1, 3) := by decide +kernel
theorem dX10_digest_193 : decode cX10_digest 193 = .ok (.goto (-42), 3) := by decide +kernel
theorem dX10_digest_196 : decode cX10_digest 196 = .ok (.iconst 1, 1) := by decide +kernel
theorem dX10_digest_197 : decode cX10_digest 197 = .ok (.istore_n 3, 1) := by decide +kernel
theorem dX10_digest_198 : decode cX10_digest 198 = .ok (.iload_n 3, 1) := by decide +kernel
theorem dX10_digest_199 : decode cX10_digest 199 = .ok (.bipush 9, 2) := by decide +kernel
theorem dX10_digest_201 : decode cX10_digest 201 = .ok (.if_icmp .ge 16, 3) := by decide +kernel
theorem dX10_digest_204 : decode cX10_digest 204 = .ok (.aload_n 0, 1) := by decide +kernel
theorem dX10_digest_205 : decode cX10_digest 205 = .ok (.lload_n 1, 1) := by decide +kernel
theorem dX10_digest_206 : decode cX10_digest 206 = .ok (.iload_n 3, 1) := by decide +kernel
theorem dX10_digest_207 : decode cX10_digest 207 = .ok (.invokevirtual 311, 3) := by decide +kernel
theorem dX10_digest_210 : decode cX10_digest 210 = .ok (.lstore_n 1, 1) := by decide +kernel
theorem dX10_digest_211 : decode cX10_digest 211 = .ok (.iinc 3 1, 3) := by decide +kernel
theorem dX10_digest_214 : decode cX10_digest 214 = .ok (.goto (-16), 3) := by decide +kernel
theorem dX10_digest_217 : decode cX10_digest 217 = .ok (.ldc2_w 282, 3) := by decide +kernel
theorem dX10_digest_220 : decode cX10_digest 220 = .ok (.lload_n 1, 1) := by decide +kernel
theorem dX10_digest_221 : decode cX10_digest 221 = .ok (.lmul, 1) := by decide +kernel
theorem dX10_digest_222 : decode cX10_digest 222 = .ok (.aload_n 0, 1) := by decide +kernel
theorem dX10_digest_223 : decode cX10_digest 223 = .ok (.invokevirtual 246, 3) := by decide +kernel
theorem dX10_digest_226 : decode cX10_digest 226 = .ok (.i2l, 1) := by decide +kernel
theorem dX10_digest_227 : decode cX10_digest 227 = .ok (.ladd, 1) := by decide +kernel
theorem dX10_digest_228 : decode cX10_digest 228 = .ok (.lreturn, 1) := by decide +kernel
theorem dJ6_bitCount_0f7a4_0 : decode cJ6_bitCount_0f7a4 0 = .ok (.iload_n 0, 1) := by decide +kernel
theorem dJ6_bitCount_0f7a4_1 : decode cJ6_bitCount_0f7a4 1 = .ok (.iload_n 0, 1) := by decide +kernel
theorem dJ6_bitCount_0f7a4_2 : decode cJ6_bitCount_0f7a4 2 = .ok (.iconst 1, 1) := by decide +kernel
theorem dJ6_bitCount_0f7a4_3 : decode cJ6_bitCount_0f7a4 3 = .ok (.iushr, 1) := by decide +kernel
theorem dJ6_bitCount_0f7a4_4 : decode cJ6_bitCount_0f7a4 4 = .ok (.ldc_w 265, 3) := by decide +kernel
theorem dJ6_bitCount_0f7a4_7 : decode cJ6_bitCount_0f7a4 7 = .ok (.iand, 1) := by decide +kernel
theorem dJ6_bitCount_0f7a4_8 : decode cJ6_bitCount_0f7a4 8 = .ok (.isub, 1) := by decide +kernel
theorem dJ6_bitCount_0f7a4_9 : decode cJ6_bitCount_0f7a4 9 = .ok (.istore_n 0, 1) := by decide +kernel
theorem dJ6_bitCount_0f7a4_10 : decode cJ6_bitCount_0f7a4 10 = .ok (.iload_n 0, 1) := by decide +kernel
theorem dJ6_bitCount_0f7a4_11 : decode cJ6_bitCount_0f7a4 11 = .ok (.ldc_w 266, 3) := by decide +kernel
theorem dJ6_bitCount_0f7a4_14 : decode cJ6_bitCount_0f7a4 14 = .ok (.iand, 1) := by decide +kernel
theorem dJ6_bitCount_0f7a4_15 : decode cJ6_bitCount_0f7a4 15 = .ok (.iload_n 0, 1) := by decide +kernel
theorem dJ6_bitCount_0f7a4_16 : decode cJ6_bitCount_0f7a4 16 = .ok (.iconst 2, 1) := by decide +kernel
theorem dJ6_bitCount_0f7a4_17 : decode cJ6_bitCount_0f7a4 17 = .ok (.iushr, 1) := by decide +kernel
theorem dJ6_bitCount_0f7a4_18 : decode cJ6_bitCount_0f7a4 18 = .ok (.ldc_w 266, 3) := by decide +kernel
theorem dJ6_bitCount_0f7a4_21 : decode cJ6_bitCount_0f7a4 21 = .ok (.iand, 1) := by decide +kernel
theorem dJ6_bitCount_0f7a4_22 : decode cJ6_bitCount_0f7a4 22 = .ok (.iadd, 1) := by decide +kernel
theorem dJ6_bitCount_0f7a4_23 : decode cJ6_bitCount_0f7a4 23 = .ok (.istore_n 0, 1) := by decide +kernel
theorem dJ6_bitCount_0f7a4_24 : decode cJ6_bitCount_0f7a4 24 = .ok (.iload_n 0, 1) := by decide +kernel
theorem dJ6_bitCount_0f7a4_25 : decode cJ6_bitCount_0f7a4 25 = .ok (.iload_n 0, 1) := by decide +kernel
theorem dJ6_bitCount_0f7a4_26 : decode cJ6_bitCount_0f7a4 26 = .ok (.iconst 4, 1) := by decide +kernel
theorem dJ6_bitCount_0f7a4_27 : decode cJ6_bitCount_0f7a4 27 = .ok (.iushr, 1) := by decide +kernel
theorem dJ6_bitCount_0f7a4_28 : decode cJ6_bitCount_0f7a4 28 = .ok (.iadd, 1) := by decide +kernel
theorem dJ6_bitCount_0f7a4_29 : decode cJ6_bitCount_0f7a4 29 = .ok (.ldc_w 267, 3) := by decide +kernel
theorem dJ6_bitCount_0f7a4_32 : decode cJ6_bitCount_0f7a4 32 = .ok (.iand, 1) := by decide +kernel
theorem dJ6_bitCount_0f7a4_33 : decode cJ6_bitCount_0f7a4 33 = .ok (.istore_n 0, 1) := by decide +kernel
theorem dJ6_bitCount_0f7a4_34 : decode cJ6_bitCount_0f7a4 34 = .ok (.iload_n 0, 1) := by decide +kernel
theorem dJ6_bitCount_0f7a4_35 : decode cJ6_bitCount_0f7a4 35 = .ok (.iload_n 0, 1) := by decide +kernel
theorem dJ6_bitCount_0f7a4_36 : decode cJ6_bitCount_0f7a4 36 = .ok (.bipush 8, 2) := by decide +kernel
theorem dJ6_bitCount_0f7a4_38 : decode cJ6_bitCount_0f7a4 38 = .ok (.iushr, 1) := by decide +kernel
theorem dJ6_bitCount_0f7a4_39 : decode cJ6_bitCount_0f7a4 39 = .ok (.iadd, 1) := by decide +kernel
theorem dJ6_bitCount_0f7a4_40 : decode cJ6_bitCount_0f7a4 40 = .ok (.istore_n 0, 1) := by decide +kernel
theorem dJ6_bitCount_0f7a4_41 : decode cJ6_bitCount_0f7a4 41 = .ok (.iload_n 0, 1) := by decide +kernel
theorem dJ6_bitCount_0f7a4_42 : decode cJ6_bitCount_0f7a4 42 = .ok (.iload_n 0, 1) := by decide +kernel
theorem dJ6_bitCount_0f7a4_43 : decode cJ6_bitCount_0f7a4 43 = .ok (.bipush 16, 2) := by decide +kernel
theorem dJ6_bitCount_0f7a4_45 : decode cJ6_bitCount_0f7a4 45 = .ok (.iushr, 1) := by decide +kernel
theorem dJ6_bitCount_0f7a4_46 : decode cJ6_bitCount_0f7a4 46 = .ok (.iadd, 1) := by decide +kernel
theorem dJ6_bitCount_0f7a4_47 : decode cJ6_bitCount_0f7a4 47 = .ok (.istore_n 0, 1) := by decide +kernel
theorem dJ6_bitCount_0f7a4_48 : decode cJ6_bitCount_0f7a4 48 = .ok (.iload_n 0, 1) := by decide +kernel
theorem dJ6_bitCount_0f7a4_49 : decode cJ6_bitCount_0f7a4 49 = .ok (.bipush 63, 2) := by decide +kernel
theorem dJ6_bitCount_0f7a4_51 : decode cJ6_bitCount_0f7a4 51 = .ok (.iand, 1) := by decide +kernel
theorem dJ6_bitCount_0f7a4_52 : decode cJ6_bitCount_0f7a4 52 = .ok (.ireturn, 1) := by decide +kernel
theorem dJ9_max_7cf53_0 : decode cJ9_max_7cf53 0 = .ok (.iload_n 0, 1) := by decide +kernel
theorem dJ9_max_7cf53_1 : decode cJ9_max_7cf53 1 = .ok (.iload_n 1, 1) := by decide +kernel
theorem dJ9_max_7cf53_2 : decode cJ9_max_7cf53 2 = .ok (.if_icmp .lt 7, 3) := by decide +kernel
theorem dJ9_max_7cf53_5 : decode cJ9_max_7cf53 5 = .ok (.iload_n 0, 1) := by decide +kernel
theorem dJ9_max_7cf53_6 : decode cJ9_max_7cf53 6 = .ok (.goto 4, 3) := by decide +kernel
theorem dJ9_max_7cf53_9 : decode cJ9_max_7cf53 9 = .ok (.iload_n 1, 1) := by decide +kernel
theorem dJ9_max_7cf53_10 : decode cJ9_max_7cf53 10 = .ok (.ireturn, 1) := by decide +kernel
theorem dJ9_min_7cf53_0 : decode cJ9_min_7cf53 0 = .ok (.iload_n 0, 1) := by decide +kernel
theorem dJ9_min_7cf53_1 : decode cJ9_min_7cf53 1 = .ok (.iload_n 1, 1) := by decide +kernel
theorem dJ9_min_7cf53_2 : decode cJ9_min_7cf53 2 = .ok (.if_icmp .gt 7, 3) := by decide +kernel
theorem dJ9_min_7cf53_5 : decode cJ9_min_7cf53 5 = .ok (.iload_n 0, 1) := by decide +kernel
theorem dJ9_min_7cf53_6 : decode cJ9_min_7cf53 6 = .ok (.goto 4, 3) := by decide +kernel
theorem dJ9_min_7cf53_9 : decode cJ9_min_7cf53 9 = .ok (.iload_n 1, 1) := by decide +kernel
theorem dJ9_min_7cf53_10 : decode cJ9_min_7cf53 10 = .ok (.ireturn, 1) := by decide +kernel
theorem dL_law_0 : decode cL_law 0 = .ok (.new 7, 3) := by decide +kernel
theorem dL_law_3 : decode cL_law 3 = .ok (.dup, 1) := by decide +kernel
theorem dL_law_4 : decode cL_law 4 = .ok (.invokespecial 9, 3) := by decide +kernel
theorem dL_law_7 : decode cL_law 7 = .ok (.astore_n 1, 1) := by decide +kernel
theorem dL_law_8 : decode cL_law 8 = .ok (.new 10, 3) := by decide +kernel
theorem dL_law_11 : decode cL_law 11 = .ok (.dup, 1) := by decide +kernel
theorem dL_law_12 : decode cL_law 12 = .ok (.invokespecial 12, 3) := by decide +kernel
theorem dL_law_15 : decode cL_law 15 = .ok (.astore_n 2, 1) := by decide +kernel
theorem dL_law_16 : decode cL_law 16 = .ok (.iconst 0, 1) := by decide +kernel
theorem dL_law_17 : decode cL_law 17 = .ok (.istore_n 3, 1) := by decide +kernel
theorem dL_law_18 : decode cL_law 18 = .ok (.iload_n 3, 1) := by decide +kernel
theorem dL_law_19 : decode cL_law 19 = .ok (.aload_n 0, 1) := by decide +kernel
theorem dL_law_20 : decode cL_law 20 = .ok (.arraylength, 1) := by decide +kernel
theorem dL_law_21 : decode cL_law 21 = .ok (.bipush 6, 2) := by decide +kernel
theorem dL_law_23 : decode cL_law 23 = .ok (.isub, 1) := by decide +kernel
theorem dL_law_24 : decode cL_law 24 = .ok (.if_icmp .gt 1031, 3) := by decide +kernel
theorem dL_law_27 : decode cL_law 27 = .ok (.aload_n 0, 1) := by decide +kernel
theorem dL_law_28 : decode cL_law 28 = .ok (.iload_n 3, 1) := by decide +kernel
theorem dL_law_29 : decode cL_law 29 = .ok (.iaload, 1) := by decide +kernel
theorem dL_law_30 : decode cL_law 30 = .ok (.bipush 31, 2) := by decide +kernel
theorem dL_law_32 : decode cL_law 32 = .ok (.iand, 1) := by decide +kernel
theorem dL_law_33 : decode cL_law 33 = .ok (.tableswitch 1016 0 29 #[135, 158, 171, 184, 207, 240, 263, 286, 319, 352, 385, 418, 431, 464, 497, 530, 553, 586, 599, 632, 665, 688, 721, 764, 787, 840, 883, 946, 979, 1002], 135) := by decide +kernel
theorem dL_law_168 : decode cL_law 168 = .ok (.aload_n 1, 1) := by decide +kernel
theorem dL_law_169 : decode cL_law 169 = .ok (.aload_n 0, 1) := by decide +kernel
theorem dL_law_170 : decode cL_law 170 = .ok (.iload_n 3, 1) := by decide +kernel
theorem dL_law_171 : decode cL_law 171 = .ok (.iconst 1, 1) := by decide +kernel
theorem dL_law_172 : decode cL_law 172 = .ok (.iadd, 1) := by decide +kernel
theorem dL_law_173 : decode cL_law 173 = .ok (.iaload, 1) := by decide +kernel
theorem dL_law_174 : decode cL_law 174 = .ok (.invokevirtual 13, 3) := by decide +kernel
theorem dL_law_177 : decode cL_law 177 = .ok (.aload_n 2, 1) := by decide +kernel
theorem dL_law_178 : decode cL_law 178 = .ok (.aload_n 0, 1) := by decide +kernel
theorem dL_law_179 : decode cL_law 179 = .ok (.iload_n 3, 1) := by decide +kernel
theorem dL_law_180 : decode cL_law 180 = .ok (.iconst 1, 1) := by decide +kernel
theorem dL_law_181 : decode cL_law 181 = .ok (.iadd, 1) := by decide +kernel
theorem dL_law_182 : decode cL_law 182 = .ok (.iaload, 1) := by decide +kernel
theorem dL_law_183 : decode cL_law 183 = .ok (.invokevirtual 17, 3) := by decide +kernel
theorem dL_law_186 : decode cL_law 186 = .ok (.if_icmp .eq 863, 3) := by decide +kernel
theorem dL_law_189 : decode cL_law 189 = .ok (.iconst 0, 1) := by decide +kernel
theorem dL_law_190 : decode cL_law 190 = .ok (.ireturn, 1) := by decide +kernel
theorem dL_law_191 : decode cL_law 191 = .ok (.aload_n 1, 1) := by decide +kernel
theorem dL_law_192 : decode cL_law 192 = .ok (.invokevirtual 18, 3) := by decide +kernel
theorem dL_law_195 : decode cL_law 195 = .ok (.aload_n 2, 1) := by decide +kernel
theorem dL_law_196 : decode cL_law 196 = .ok (.invokevirtual 22, 3) := by decide +kernel
theorem dL_law_199 : decode cL_law 199 = .ok (.if_icmp .eq 850, 3) := by decide +kernel
theorem dL_law_202 : decode cL_law 202 = .ok (.iconst 0, 1) := by decide +kernel
theorem dL_law_203 : decode cL_law 203 = .ok (.ireturn, 1) := by decide +kernel
theorem dL_law_204 : decode cL_law 204 = .ok (.aload_n 1, 1) := by decide +kernel
theorem dL_law_205 : decode cL_law 205 = .ok (.invokevirtual 23, 3) := by decide +kernel
theorem dL_law_208 : decode cL_law 208 = .ok (.aload_n 2, 1) := by decide +kernel
theorem dL_law_209 : decode cL_law 209 = .ok (.invokevirtual 26, 3) := by decide +kernel
theorem dL_law_212 : decode cL_law 212 = .ok (.if_icmp .eq 837, 3) := by decide +kernel
theorem dL_law_215 : decode cL_law 215 = .ok (.iconst 0, 1) := by decide +kernel
theorem dL_law_216 : decode cL_law 216 = .ok (.ireturn, 1) := by decide +kernel
theorem dL_law_217 : decode cL_law 217 = .ok (.aload_n 1, 1) := by decide +kernel
theorem dL_law_218 : decode cL_law 218 = .ok (.aload_n 0, 1) := by decide +kernel
theorem dL_law_219 : decode cL_law 219 = .ok (.iload_n 3, 1) := by decide +kernel
theorem dL_law_220 : decode cL_law 220 = .ok (.iconst 1, 1) := by decide +kernel
theorem dL_law_221 : decode cL_law 221 = .ok (.iadd, 1) := by decide +kernel
theorem dL_law_222 : decode cL_law 222 = .ok (.iaload, 1) := by decide +kernel
theorem dL_law_223 : decode cL_law 223 = .ok (.invokevirtual 27, 3) := by decide +kernel
theorem dL_law_226 : decode cL_law 226 = .ok (.aload_n 2, 1) := by decide +kernel
theorem dL_law_227 : decode cL_law 227 = .ok (.aload_n 0, 1) := by decide +kernel
theorem dL_law_228 : decode cL_law 228 = .ok (.iload_n 3, 1) := by decide +kernel
theorem dL_law_229 : decode cL_law 229 = .ok (.iconst 1, 1) := by decide +kernel
theorem dL_law_230 : decode cL_law 230 = .ok (.iadd, 1) := by decide +kernel
theorem dL_law_231 : decode cL_law 231 = .ok (.iaload, 1) := by decide +kernel
theorem dL_law_232 : decode cL_law 232 = .ok (.invokevirtual 30, 3) := by decide +kernel
theorem dL_law_235 : decode cL_law 235 = .ok (.if_icmp .eq 814, 3) := by decide +kernel
theorem dL_law_238 : decode cL_law 238 = .ok (.iconst 0, 1) := by decide +kernel
theorem dL_law_239 : decode cL_law 239 = .ok (.ireturn, 1) := by decide +kernel
theorem dL_law_240 : decode cL_law 240 = .ok (.aload_n 1, 1) := by decide +kernel
theorem dL_law_241 : decode cL_law 241 = .ok (.aload_n 0, 1) := by decide +kernel
theorem dL_law_242 : decode cL_law 242 = .ok (.iload_n 3, 1) := by decide +kernel
theorem dL_law_243 : decode cL_law 243 = .ok (.iconst 1, 1) := by decide +kernel
theorem dL_law_244 : decode cL_law 244 = .ok (.iadd, 1) := by decide +kernel
theorem dL_law_245 : decode cL_law 245 = .ok (.iaload, 1) := by decide +kernel
theorem dL_law_246 : decode cL_law 246 = .ok (.aload_n 0, 1) := by decide +kernel
theorem dL_law_247 : decode cL_law 247 = .ok (.iload_n 3, 1) := by decide +kernel
theorem dL_law_248 : decode cL_law 248 = .ok (.iconst 2, 1) := by decide +kernel
theorem dL_law_249 : decode cL_law 249 = .ok (.iadd, 1) := by decide +kernel
theorem dL_law_250 : decode cL_law 250 = .ok (.iaload, 1) := by decide +kernel
theorem dL_law_251 : decode cL_law 251 = .ok (.invokevirtual 31, 3) := by decide +kernel
theorem dL_law_254 : decode cL_law 254 = .ok (.aload_n 2, 1) := by decide +kernel
theorem dL_law_255 : decode cL_law 255 = .ok (.aload_n 0, 1) := by decide +kernel
theorem dL_law_256 : decode cL_law 256 = .ok (.iload_n 3, 1) := by decide +kernel
theorem dL_law_257 : decode cL_law 257 = .ok (.iconst 1, 1) := by decide +kernel
theorem dL_law_258 : decode cL_law 258 = .ok (.iadd, 1) := by decide +kernel
theorem dL_law_259 : decode cL_law 259 = .ok (.iaload, 1) := by decide +kernel
theorem dL_law_260 : decode cL_law 260 = .ok (.aload_n 0, 1) := by decide +kernel
theorem dL_law_261 : decode cL_law 261 = .ok (.iload_n 3, 1) := by decide +kernel
theorem dL_law_262 : decode cL_law 262 = .ok (.iconst 2, 1) := by decide +kernel
theorem dL_law_263 : decode cL_law 263 = .ok (.iadd, 1) := by decide +kernel
theorem dL_law_264 : decode cL_law 264 = .ok (.iaload, 1) := by decide +kernel
theorem dL_law_265 : decode cL_law 265 = .ok (.invokevirtual 35, 3) := by decide +kernel
theorem dL_law_268 : decode cL_law 268 = .ok (.if_icmp .eq 781, 3) := by decide +kernel
theorem dL_law_271 : decode cL_law 271 = .ok (.iconst 0, 1) := by decide +kernel
theorem dL_law_272 : decode cL_law 272 = .ok (.ireturn, 1) := by decide +kernel
theorem dL_law_273 : decode cL_law 273 = .ok (.aload_n 1, 1) := by decide +kernel
theorem dL_law_274 : decode cL_law 274 = .ok (.aload_n 0, 1) := by decide +kernel
theorem dL_law_275 : decode cL_law 275 = .ok (.iload_n 3, 1) := by decide +kernel
theorem dL_law_276 : decode cL_law 276 = .ok (.iconst 1, 1) := by decide +kernel
theorem dL_law_277 : decode cL_law 277 = .ok (.iadd, 1) := by decide +kernel
theorem dL_law_278 : decode cL_law 278 = .ok (.iaload, 1) := by decide +kernel
theorem dL_law_279 : decode cL_law 279 = .ok (.invokevirtual 36, 3) := by decide +kernel
theorem dL_law_282 : decode cL_law 282 = .ok (.aload_n 2, 1) := by decide +kernel
theorem dL_law_283 : decode cL_law 283 = .ok (.aload_n 0, 1) := by decide +kernel
theorem dL_law_284 : decode cL_law 284 = .ok (.iload_n 3, 1) := by decide +kernel
theorem dL_law_285 : decode cL_law 285 = .ok (.iconst 1, 1) := by decide +kernel
theorem dL_law_286 : decode cL_law 286 = .ok (.iadd, 1) := by decide +kernel
theorem dL_law_287 : decode cL_law 287 = .ok (.iaload, 1) := by decide +kernel
theorem dL_law_288 : decode cL_law 288 = .ok (.invokevirtual 39, 3) := by decide +kernel
theorem dL_law_291 : decode cL_law 291 = .ok (.if_icmp .eq 758, 3) := by decide +kernel
theorem dL_law_294 : decode cL_law 294 = .ok (.iconst 0, 1) := by decide +kernel
theorem dL_law_295 : decode cL_law 295 = .ok (.ireturn, 1) := by decide +kernel
theorem dL_law_296 : decode cL_law 296 = .ok (.aload_n 1, 1) := by decide +kernel
theorem dL_law_297 : decode cL_law 297 = .ok (.aload_n 0, 1) := by decide +kernel
theorem dL_law_298 : decode cL_law 298 = .ok (.iload_n 3, 1) := by decide +kernel
theorem dL_law_299 : decode cL_law 299 = .ok (.iconst 1, 1) := by decide +kernel
theorem dL_law_300 : decode cL_law 300 = .ok (.iadd, 1) := by decide +kernel
theorem dL_law_301 : decode cL_law 301 = .ok (.iaload, 1) := by decide +kernel
theorem dL_law_302 : decode cL_law 302 = .ok (.invokevirtual 40, 3) := by decide +kernel
theorem dL_law_305 : decode cL_law 305 = .ok (.aload_n 2, 1) := by decide +kernel
theorem dL_law_306 : decode cL_law 306 = .ok (.aload_n 0, 1) := by decide +kernel
theorem dL_law_307 : decode cL_law 307 = .ok (.iload_n 3, 1) := by decide +kernel
theorem dL_law_308 : decode cL_law 308 = .ok (.iconst 1, 1) := by decide +kernel
theorem dL_law_309 : decode cL_law 309 = .ok (.iadd, 1) := by decide +kernel
theorem dL_law_310 : decode cL_law 310 = .ok (.iaload, 1) := by decide +kernel
theorem dL_law_311 : decode cL_law 311 = .ok (.invokevirtual 43, 3) := by decide +kernel
theorem dL_law_314 : decode cL_law 314 = .ok (.if_icmp .eq 735, 3) := by decide +kernel
theorem dL_law_317 : decode cL_law 317 = .ok (.iconst 0, 1) := by decide +kernel
theorem dL_law_318 : decode cL_law 318 = .ok (.ireturn, 1) := by decide +kernel
theorem dL_law_319 : decode cL_law 319 = .ok (.aload_n 1, 1) := by decide +kernel
theorem dL_law_320 : decode cL_law 320 = .ok (.aload_n 0, 1) := by decide +kernel
theorem dL_law_321 : decode cL_law 321 = .ok (.iload_n 3, 1) := by decide +kernel
theorem dL_law_322 : decode cL_law 322 = .ok (.iconst 1, 1) := by decide +kernel
theorem dL_law_323 : decode cL_law 323 = .ok (.iadd, 1) := by decide +kernel
theorem dL_law_324 : decode cL_law 324 = .ok (.iaload, 1) := by decide +kernel
theorem dL_law_325 : decode cL_law 325 = .ok (.aload_n 0, 1) := by decide +kernel
theorem dL_law_326 : decode cL_law 326 = .ok (.iload_n 3, 1) := by decide +kernel
theorem dL_law_327 : decode cL_law 327 = .ok (.iconst 2, 1) := by decide +kernel
theorem dL_law_328 : decode cL_law 328 = .ok (.iadd, 1) := by decide +kernel
theorem dL_law_329 : decode cL_law 329 = .ok (.iaload, 1) := by decide +kernel
theorem dL_law_330 : decode cL_law 330 = .ok (.invokevirtual 44, 3) := by decide +kernel
theorem dL_law_333 : decode cL_law 333 = .ok (.aload_n 2, 1) := by decide +kernel
theorem dL_law_334 : decode cL_law 334 = .ok (.aload_n 0, 1) := by decide +kernel
theorem dL_law_335 : decode cL_law 335 = .ok (.iload_n 3, 1) := by decide +kernel
theorem dL_law_336 : decode cL_law 336 = .ok (.iconst 1, 1) := by decide +kernel
theorem dL_law_337 : decode cL_law 337 = .ok (.iadd, 1) := by decide +kernel
theorem dL_law_338 : decode cL_law 338 = .ok (.iaload, 1) := by decide +kernel
theorem dL_law_339 : decode cL_law 339 = .ok (.aload_n 0, 1) := by decide +kernel
theorem dL_law_340 : decode cL_law 340 = .ok (.iload_n 3, 1) := by decide +kernel
theorem dL_law_341 : decode cL_law 341 = .ok (.iconst 2, 1) := by decide +kernel
theorem dL_law_342 : decode cL_law 342 = .ok (.iadd, 1) := by decide +kernel
theorem dL_law_343 : decode cL_law 343 = .ok (.iaload, 1) := by decide +kernel
theorem dL_law_344 : decode cL_law 344 = .ok (.invokevirtual 47, 3) := by decide +kernel
theorem dL_law_347 : decode cL_law 347 = .ok (.if_icmp .eq 702, 3) := by decide +kernel
theorem dL_law_350 : decode cL_law 350 = .ok (.iconst 0, 1) := by decide +kernel
theorem dL_law_351 : decode cL_law 351 = .ok (.ireturn, 1) := by decide +kernel
theorem dL_law_352 : decode cL_law 352 = .ok (.aload_n 1, 1) := by decide +kernel
theorem dL_law_353 : decode cL_law 353 = .ok (.aload_n 0, 1) := by decide +kernel
theorem dL_law_354 : decode cL_law 354 = .ok (.iload_n 3, 1) := by decide +kernel
theorem dL_law_355 : decode cL_law 355 = .ok (.iconst 1, 1) := by decide +kernel
theorem dL_law_356 : decode cL_law 356 = .ok (.iadd, 1) := by decide +kernel
theorem dL_law_357 : decode cL_law 357 = .ok (.iaload, 1) := by decide +kernel
theorem dL_law_358 : decode cL_law 358 = .ok (.aload_n 0, 1) := by decide +kernel
theorem dL_law_359 : decode cL_law 359 = .ok (.iload_n 3, 1) := by decide +kernel
theorem dL_law_360 : decode cL_law 360 = .ok (.iconst 2, 1) := by decide +kernel
theorem dL_law_361 : decode cL_law 361 = .ok (.iadd, 1) := by decide +kernel
theorem dL_law_362 : decode cL_law 362 = .ok (.iaload, 1) := by decide +kernel
theorem dL_law_363 : decode cL_law 363 = .ok (.invokevirtual 48, 3) := by decide +kernel
theorem dL_law_366 : decode cL_law 366 = .ok (.aload_n 2, 1) := by decide +kernel
theorem dL_law_367 : decode cL_law 367 = .ok (.aload_n 0, 1) := by decide +kernel
theorem dL_law_368 : decode cL_law 368 = .ok (.iload_n 3, 1) := by decide +kernel
theorem dL_law_369 : decode cL_law 369 = .ok (.iconst 1, 1) := by decide +kernel
theorem dL_law_370 : decode cL_law 370 = .ok (.iadd, 1) := by decide +kernel
theorem dL_law_371 : decode cL_law 371 = .ok (.iaload, 1) := by decide +kernel
theorem dL_law_372 : decode cL_law 372 = .ok (.aload_n 0, 1) := by decide +kernel
theorem dL_law_373 : decode cL_law 373 = .ok (.iload_n 3, 1) := by decide +kernel
theorem dL_law_374 : decode cL_law 374 = .ok (.iconst 2, 1) := by decide +kernel
theorem dL_law_375 : decode cL_law 375 = .ok (.iadd, 1) := by decide +kernel
theorem dL_law_376 : decode cL_law 376 = .ok (.iaload, 1) := by decide +kernel
theorem dL_law_377 : decode cL_law 377 = .ok (.invokevirtual 51, 3) := by decide +kernel
theorem dL_law_380 : decode cL_law 380 = .ok (.if_icmp .eq 669, 3) := by decide +kernel
theorem dL_law_383 : decode cL_law 383 = .ok (.iconst 0, 1) := by decide +kernel
theorem dL_law_384 : decode cL_law 384 = .ok (.ireturn, 1) := by decide +kernel
theorem dL_law_385 : decode cL_law 385 = .ok (.aload_n 1, 1) := by decide +kernel
theorem dL_law_386 : decode cL_law 386 = .ok (.aload_n 0, 1) := by decide +kernel
theorem dL_law_387 : decode cL_law 387 = .ok (.iload_n 3, 1) := by decide +kernel
theorem dL_law_388 : decode cL_law 388 = .ok (.iconst 1, 1) := by decide +kernel
theorem dL_law_389 : decode cL_law 389 = .ok (.iadd, 1) := by decide +kernel
theorem dL_law_390 : decode cL_law 390 = .ok (.iaload, 1) := by decide +kernel
theorem dL_law_391 : decode cL_law 391 = .ok (.aload_n 0, 1) := by decide +kernel
theorem dL_law_392 : decode cL_law 392 = .ok (.iload_n 3, 1) := by decide +kernel
theorem dL_law_393 : decode cL_law 393 = .ok (.iconst 2, 1) := by decide +kernel
theorem dL_law_394 : decode cL_law 394 = .ok (.iadd, 1) := by decide +kernel
theorem dL_law_395 : decode cL_law 395 = .ok (.iaload, 1) := by decide +kernel
theorem dL_law_396 : decode cL_law 396 = .ok (.invokevirtual 52, 3) := by decide +kernel
theorem dL_law_399 : decode cL_law 399 = .ok (.aload_n 2, 1) := by decide +kernel
theorem dL_law_400 : decode cL_law 400 = .ok (.aload_n 0, 1) := by decide +kernel
theorem dL_law_401 : decode cL_law 401 = .ok (.iload_n 3, 1) := by decide +kernel
theorem dL_law_402 : decode cL_law 402 = .ok (.iconst 1, 1) := by decide +kernel
theorem dL_law_403 : decode cL_law 403 = .ok (.iadd, 1) := by decide +kernel
theorem dL_law_404 : decode cL_law 404 = .ok (.iaload, 1) := by decide +kernel
theorem dL_law_405 : decode cL_law 405 = .ok (.aload_n 0, 1) := by decide +kernel
theorem dL_law_406 : decode cL_law 406 = .ok (.iload_n 3, 1) := by decide +kernel
theorem dL_law_407 : decode cL_law 407 = .ok (.iconst 2, 1) := by decide +kernel
theorem dL_law_408 : decode cL_law 408 = .ok (.iadd, 1) := by decide +kernel
theorem dL_law_409 : decode cL_law 409 = .ok (.iaload, 1) := by decide +kernel
theorem dL_law_410 : decode cL_law 410 = .ok (.invokevirtual 55, 3) := by decide +kernel
theorem dL_law_413 : decode cL_law 413 = .ok (.if_icmp .eq 636, 3) := by decide +kernel
theorem dL_law_416 : decode cL_law 416 = .ok (.iconst 0, 1) := by decide +kernel
theorem dL_law_417 : decode cL_law 417 = .ok (.ireturn, 1) := by decide +kernel
theorem dL_law_418 : decode cL_law 418 = .ok (.aload_n 1, 1) := by decide +kernel
theorem dL_law_419 : decode cL_law 419 = .ok (.aload_n 0, 1) := by decide +kernel
theorem dL_law_420 : decode cL_law 420 = .ok (.iload_n 3, 1) := by decide +kernel
theorem dL_law_421 : decode cL_law 421 = .ok (.iconst 1, 1) := by decide +kernel
theorem dL_law_422 : decode cL_law 422 = .ok (.iadd, 1) := by decide +kernel
theorem dL_law_423 : decode cL_law 423 = .ok (.iaload, 1) := by decide +kernel
theorem dL_law_424 : decode cL_law 424 = .ok (.aload_n 0, 1) := by decide +kernel
theorem dL_law_425 : decode cL_law 425 = .ok (.iload_n 3, 1) := by decide +kernel
theorem dL_law_426 : decode cL_law 426 = .ok (.iconst 2, 1) := by decide +kernel
theorem dL_law_427 : decode cL_law 427 = .ok (.iadd, 1) := by decide +kernel
theorem dL_law_428 : decode cL_law 428 = .ok (.iaload, 1) := by decide +kernel
theorem dL_law_429 : decode cL_law 429 = .ok (.invokevirtual 56, 3) := by decide +kernel
theorem dL_law_432 : decode cL_law 432 = .ok (.aload_n 2, 1) := by decide +kernel
theorem dL_law_433 : decode cL_law 433 = .ok (.aload_n 0, 1) := by decide +kernel
theorem dL_law_434 : decode cL_law 434 = .ok (.iload_n 3, 1) := by decide +kernel
theorem dL_law_435 : decode cL_law 435 = .ok (.iconst 1, 1) := by decide +kernel
theorem dL_law_436 : decode cL_law 436 = .ok (.iadd, 1) := by decide +kernel
theorem dL_law_437 : decode cL_law 437 = .ok (.iaload, 1) := by decide +kernel
theorem dL_law_438 : decode cL_law 438 = .ok (.aload_n 0, 1) := by decide +kernel
theorem dL_law_439 : decode cL_law 439 = .ok (.iload_n 3, 1) := by decide +kernel
theorem dL_law_440 : decode cL_law 440 = .ok (.iconst 2, 1) := by decide +kernel
theorem dL_law_441 : decode cL_law 441 = .ok (.iadd, 1) := by decide +kernel
theorem dL_law_442 : decode cL_law 442 = .ok (.iaload, 1) := by decide +kernel
theorem dL_law_443 : decode cL_law 443 = .ok (.invokevirtual 59, 3) := by decide +kernel
theorem dL_law_446 : decode cL_law 446 = .ok (.if_icmp .eq 603, 3) := by decide +kernel
theorem dL_law_449 : decode cL_law 449 = .ok (.iconst 0, 1) := by decide +kernel
theorem dL_law_450 : decode cL_law 450 = .ok (.ireturn, 1) := by decide +kernel
theorem dL_law_451 : decode cL_law 451 = .ok (.aload_n 1, 1) := by decide +kernel
theorem dL_law_452 : decode cL_law 452 = .ok (.invokevirtual 60, 3) := by decide +kernel
theorem dL_law_455 : decode cL_law 455 = .ok (.aload_n 2, 1) := by decide +kernel
theorem dL_law_456 : decode cL_law 456 = .ok (.invokevirtual 63, 3) := by decide +kernel
theorem dL_law_459 : decode cL_law 459 = .ok (.if_icmp .eq 590, 3) := by decide +kernel
theorem dL_law_462 : decode cL_law 462 = .ok (.iconst 0, 1) := by decide +kernel
theorem dL_law_463 : decode cL_law 463 = .ok (.ireturn, 1) := by decide +kernel
theorem dL_law_464 : decode cL_law 464 = .ok (.aload_n 1, 1) := by decide +kernel
theorem dL_law_465 : decode cL_law 465 = .ok (.aload_n 0, 1) := by decide +kernel
theorem dL_law_466 : decode cL_law 466 = .ok (.iload_n 3, 1) := by decide +kernel
theorem dL_law_467 : decode cL_law 467 = .ok (.iconst 1, 1) := by decide +kernel
theorem dL_law_468 : decode cL_law 468 = .ok (.iadd, 1) := by decide +kernel
theorem dL_law_469 : decode cL_law 469 = .ok (.iaload, 1) := by decide +kernel
theorem dL_law_470 : decode cL_law 470 = .ok (.aload_n 0, 1) := by decide +kernel
theorem dL_law_471 : decode cL_law 471 = .ok (.iload_n 3, 1) := by decide +kernel
theorem dL_law_472 : decode cL_law 472 = .ok (.iconst 2, 1) := by decide +kernel
theorem dL_law_473 : decode cL_law 473 = .ok (.iadd, 1) := by decide +kernel
theorem dL_law_474 : decode cL_law 474 = .ok (.iaload, 1) := by decide +kernel
theorem dL_law_475 : decode cL_law 475 = .ok (.invokevirtual 64, 3) := by decide +kernel
theorem dL_law_478 : decode cL_law 478 = .ok (.aload_n 2, 1) := by decide +kernel
theorem dL_law_479 : decode cL_law 479 = .ok (.aload_n 0, 1) := by decide +kernel
theorem dL_law_480 : decode cL_law 480 = .ok (.iload_n 3, 1) := by decide +kernel
theorem dL_law_481 : decode cL_law 481 = .ok (.iconst 1, 1) := by decide +kernel
theorem dL_law_482 : decode cL_law 482 = .ok (.iadd, 1) := by decide +kernel
theorem dL_law_483 : decode cL_law 483 = .ok (.iaload, 1) := by decide +kernel
theorem dL_law_484 : decode cL_law 484 = .ok (.aload_n 0, 1) := by decide +kernel
theorem dL_law_485 : decode cL_law 485 = .ok (.iload_n 3, 1) := by decide +kernel
theorem dL_law_486 : decode cL_law 486 = .ok (.iconst 2, 1) := by decide +kernel
theorem dL_law_487 : decode cL_law 487 = .ok (.iadd, 1) := by decide +kernel
theorem dL_law_488 : decode cL_law 488 = .ok (.iaload, 1) := by decide +kernel
theorem dL_law_489 : decode cL_law 489 = .ok (.invokevirtual 67, 3) := by decide +kernel
theorem dL_law_492 : decode cL_law 492 = .ok (.if_icmp .eq 557, 3) := by decide +kernel
theorem dL_law_495 : decode cL_law 495 = .ok (.iconst 0, 1) := by decide +kernel
theorem dL_law_496 : decode cL_law 496 = .ok (.ireturn, 1) := by decide +kernel
theorem dL_law_497 : decode cL_law 497 = .ok (.aload_n 1, 1) := by decide +kernel
theorem dL_law_498 : decode cL_law 498 = .ok (.aload_n 0, 1) := by decide +kernel
theorem dL_law_499 : decode cL_law 499 = .ok (.iload_n 3, 1) := by decide +kernel
theorem dL_law_500 : decode cL_law 500 = .ok (.iconst 1, 1) := by decide +kernel
theorem dL_law_501 : decode cL_law 501 = .ok (.iadd, 1) := by decide +kernel
theorem dL_law_502 : decode cL_law 502 = .ok (.iaload, 1) := by decide +kernel
theorem dL_law_503 : decode cL_law 503 = .ok (.aload_n 0, 1) := by decide +kernel
theorem dL_law_504 : decode cL_law 504 = .ok (.iload_n 3, 1) := by decide +kernel
theorem dL_law_505 : decode cL_law 505 = .ok (.iconst 2, 1) := by decide +kernel
theorem dL_law_506 : decode cL_law 506 = .ok (.iadd, 1) := by decide +kernel
theorem dL_law_507 : decode cL_law 507 = .ok (.iaload, 1) := by decide +kernel
theorem dL_law_508 : decode cL_law 508 = .ok (.invokevirtual 68, 3) := by decide +kernel
theorem dL_law_511 : decode cL_law 511 = .ok (.aload_n 2, 1) := by decide +kernel
theorem dL_law_512 : decode cL_law 512 = .ok (.aload_n 0, 1) := by decide +kernel
theorem dL_law_513 : decode cL_law 513 = .ok (.iload_n 3, 1) := by decide +kernel
theorem dL_law_514 : decode cL_law 514 = .ok (.iconst 1, 1) := by decide +kernel
theorem dL_law_515 : decode cL_law 515 = .ok (.iadd, 1) := by decide +kernel
theorem dL_law_516 : decode cL_law 516 = .ok (.iaload, 1) := by decide +kernel
theorem dL_law_517 : decode cL_law 517 = .ok (.aload_n 0, 1) := by decide +kernel
theorem dL_law_518 : decode cL_law 518 = .ok (.iload_n 3, 1) := by decide +kernel
theorem dL_law_519 : decode cL_law 519 = .ok (.iconst 2, 1) := by decide +kernel
theorem dL_law_520 : decode cL_law 520 = .ok (.iadd, 1) := by decide +kernel
theorem dL_law_521 : decode cL_law 521 = .ok (.iaload, 1) := by decide +kernel
theorem dL_law_522 : decode cL_law 522 = .ok (.invokevirtual 71, 3) := by decide +kernel
theorem dL_law_525 : decode cL_law 525 = .ok (.if_icmp .eq 524, 3) := by decide +kernel
theorem dL_law_528 : decode cL_law 528 = .ok (.iconst 0, 1) := by decide +kernel
theorem dL_law_529 : decode cL_law 529 = .ok (.ireturn, 1) := by decide +kernel
theorem dL_law_530 : decode cL_law 530 = .ok (.aload_n 1, 1) := by decide +kernel
theorem dL_law_531 : decode cL_law 531 = .ok (.aload_n 0, 1) := by decide +kernel
theorem dL_law_532 : decode cL_law 532 = .ok (.iload_n 3, 1) := by decide +kernel
theorem dL_law_533 : decode cL_law 533 = .ok (.iconst 1, 1) := by decide +kernel
theorem dL_law_534 : decode cL_law 534 = .ok (.iadd, 1) := by decide +kernel
theorem dL_law_535 : decode cL_law 535 = .ok (.iaload, 1) := by decide +kernel
theorem dL_law_536 : decode cL_law 536 = .ok (.aload_n 0, 1) := by decide +kernel
theorem dL_law_537 : decode cL_law 537 = .ok (.iload_n 3, 1) := by decide +kernel
theorem dL_law_538 : decode cL_law 538 = .ok (.iconst 2, 1) := by decide +kernel
theorem dL_law_539 : decode cL_law 539 = .ok (.iadd, 1) := by decide +kernel
theorem dL_law_540 : decode cL_law 540 = .ok (.iaload, 1) := by decide +kernel
theorem dL_law_541 : decode cL_law 541 = .ok (.invokevirtual 72, 3) := by decide +kernel
theorem dL_law_544 : decode cL_law 544 = .ok (.aload_n 2, 1) := by decide +kernel
theorem dL_law_545 : decode cL_law 545 = .ok (.aload_n 0, 1) := by decide +kernel
theorem dL_law_546 : decode cL_law 546 = .ok (.iload_n 3, 1) := by decide +kernel
theorem dL_law_547 : decode cL_law 547 = .ok (.iconst 1, 1) := by decide +kernel
theorem dL_law_548 : decode cL_law 548 = .ok (.iadd, 1) := by decide +kernel
theorem dL_law_549 : decode cL_law 549 = .ok (.iaload, 1) := by decide +kernel
theorem dL_law_550 : decode cL_law 550 = .ok (.aload_n 0, 1) := by decide +kernel
theorem dL_law_551 : decode cL_law 551 = .ok (.iload_n 3, 1) := by decide +kernel
theorem dL_law_552 : decode cL_law 552 = .ok (.iconst 2, 1) := by decide +kernel
theorem dL_law_553 : decode cL_law 553 = .ok (.iadd, 1) := by decide +kernel
theorem dL_law_554 : decode cL_law 554 = .ok (.iaload, 1) := by decide +kernel
theorem dL_law_555 : decode cL_law 555 = .ok (.invokevirtual 75, 3) := by decide +kernel
theorem dL_law_558 : decode cL_law 558 = .ok (.if_icmp .eq 491, 3) := by decide +kernel
theorem dL_law_561 : decode cL_law 561 = .ok (.iconst 0, 1) := by decide +kernel
theorem dL_law_562 : decode cL_law 562 = .ok (.ireturn, 1) := by decide +kernel
theorem dL_law_563 : decode cL_law 563 = .ok (.aload_n 1, 1) := by decide +kernel
theorem dL_law_564 : decode cL_law 564 = .ok (.aload_n 0, 1) := by decide +kernel
theorem dL_law_565 : decode cL_law 565 = .ok (.iload_n 3, 1) := by decide +kernel
theorem dL_law_566 : decode cL_law 566 = .ok (.iconst 1, 1) := by decide +kernel
theorem dL_law_567 : decode cL_law 567 = .ok (.iadd, 1) := by decide +kernel
theorem dL_law_568 : decode cL_law 568 = .ok (.iaload, 1) := by decide +kernel
theorem dL_law_569 : decode cL_law 569 = .ok (.invokevirtual 76, 3) := by decide +kernel
theorem dL_law_572 : decode cL_law 572 = .ok (.aload_n 2, 1) := by decide +kernel
theorem dL_law_573 : decode cL_law 573 = .ok (.aload_n 0, 1) := by decide +kernel
theorem dL_law_574 : decode cL_law 574 = .ok (.iload_n 3, 1) := by decide +kernel
theorem dL_law_575 : decode cL_law 575 = .ok (.iconst 1, 1) := by decide +kernel
theorem dL_law_576 : decode cL_law 576 = .ok (.iadd, 1) := by decide +kernel
theorem dL_law_577 : decode cL_law 577 = .ok (.iaload, 1) := by decide +kernel
theorem dL_law_578 : decode cL_law 578 = .ok (.invokevirtual 79, 3) := by decide +kernel
theorem dL_law_581 : decode cL_law 581 = .ok (.if_icmp .eq 468, 3) := by decide +kernel
theorem dL_law_584 : decode cL_law 584 = .ok (.iconst 0, 1) := by decide +kernel
theorem dL_law_585 : decode cL_law 585 = .ok (.ireturn, 1) := by decide +kernel
theorem dL_law_586 : decode cL_law 586 = .ok (.aload_n 1, 1) := by decide +kernel
theorem dL_law_587 : decode cL_law 587 = .ok (.aload_n 0, 1) := by decide +kernel
theorem dL_law_588 : decode cL_law 588 = .ok (.iload_n 3, 1) := by decide +kernel
theorem dL_law_589 : decode cL_law 589 = .ok (.iconst 1, 1) := by decide +kernel
theorem dL_law_590 : decode cL_law 590 = .ok (.iadd, 1) := by decide +kernel
theorem dL_law_591 : decode cL_law 591 = .ok (.iaload, 1) := by decide +kernel
theorem dL_law_592 : decode cL_law 592 = .ok (.aload_n 0, 1) := by decide +kernel
theorem dL_law_593 : decode cL_law 593 = .ok (.iload_n 3, 1) := by decide +kernel
theorem dL_law_594 : decode cL_law 594 = .ok (.iconst 2, 1) := by decide +kernel
theorem dL_law_595 : decode cL_law 595 = .ok (.iadd, 1) := by decide +kernel
theorem dL_law_596 : decode cL_law 596 = .ok (.iaload, 1) := by decide +kernel
theorem dL_law_597 : decode cL_law 597 = .ok (.invokevirtual 80, 3) := by decide +kernel
theorem dL_law_600 : decode cL_law 600 = .ok (.aload_n 2, 1) := by decide +kernel
theorem dL_law_601 : decode cL_law 601 = .ok (.aload_n 0, 1) := by decide +kernel
theorem dL_law_602 : decode cL_law 602 = .ok (.iload_n 3, 1) := by decide +kernel
theorem dL_law_603 : decode cL_law 603 = .ok (.iconst 1, 1) := by decide +kernel
theorem dL_law_604 : decode cL_law 604 = .ok (.iadd, 1) := by decide +kernel
theorem dL_law_605 : decode cL_law 605 = .ok (.iaload, 1) := by decide +kernel
theorem dL_law_606 : decode cL_law 606 = .ok (.aload_n 0, 1) := by decide +kernel
theorem dL_law_607 : decode cL_law 607 = .ok (.iload_n 3, 1) := by decide +kernel
theorem dL_law_608 : decode cL_law 608 = .ok (.iconst 2, 1) := by decide +kernel
theorem dL_law_609 : decode cL_law 609 = .ok (.iadd, 1) := by decide +kernel
theorem dL_law_610 : decode cL_law 610 = .ok (.iaload, 1) := by decide +kernel
theorem dL_law_611 : decode cL_law 611 = .ok (.invokevirtual 83, 3) := by decide +kernel
theorem dL_law_614 : decode cL_law 614 = .ok (.if_icmp .eq 435, 3) := by decide +kernel
theorem dL_law_617 : decode cL_law 617 = .ok (.iconst 0, 1) := by decide +kernel
theorem dL_law_618 : decode cL_law 618 = .ok (.ireturn, 1) := by decide +kernel
theorem dL_law_619 : decode cL_law 619 = .ok (.aload_n 1, 1) := by decide +kernel
theorem dL_law_620 : decode cL_law 620 = .ok (.invokevirtual 84, 3) := by decide +kernel
theorem dL_law_623 : decode cL_law 623 = .ok (.aload_n 2, 1) := by decide +kernel
theorem dL_law_624 : decode cL_law 624 = .ok (.invokevirtual 87, 3) := by decide +kernel
theorem dL_law_627 : decode cL_law 627 = .ok (.if_icmp .eq 422, 3) := by decide +kernel
theorem dL_law_630 : decode cL_law 630 = .ok (.iconst 0, 1) := by decide +kernel
theorem dL_law_631 : decode cL_law 631 = .ok (.ireturn, 1) := by decide +kernel
theorem dL_law_632 : decode cL_law 632 = .ok (.aload_n 1, 1) := by decide +kernel
theorem dL_law_633 : decode cL_law 633 = .ok (.aload_n 0, 1) := by decide +kernel
theorem dL_law_634 : decode cL_law 634 = .ok (.iload_n 3, 1) := by decide +kernel
theorem dL_law_635 : decode cL_law 635 = .ok (.iconst 1, 1) := by decide +kernel
theorem dL_law_636 : decode cL_law 636 = .ok (.iadd, 1) := by decide +kernel
theorem dL_law_637 : decode cL_law 637 = .ok (.iaload, 1) := by decide +kernel
theorem dL_law_638 : decode cL_law 638 = .ok (.aload_n 0, 1) := by decide +kernel
theorem dL_law_639 : decode cL_law 639 = .ok (.iload_n 3, 1) := by decide +kernel
theorem dL_law_640 : decode cL_law 640 = .ok (.iconst 2, 1) := by decide +kernel
theorem dL_law_641 : decode cL_law 641 = .ok (.iadd, 1) := by decide +kernel
theorem dL_law_642 : decode cL_law 642 = .ok (.iaload, 1) := by decide +kernel
theorem dL_law_643 : decode cL_law 643 = .ok (.invokevirtual 88, 3) := by decide +kernel
theorem dL_law_646 : decode cL_law 646 = .ok (.aload_n 2, 1) := by decide +kernel
theorem dL_law_647 : decode cL_law 647 = .ok (.aload_n 0, 1) := by decide +kernel
theorem dL_law_648 : decode cL_law 648 = .ok (.iload_n 3, 1) := by decide +kernel
theorem dL_law_649 : decode cL_law 649 = .ok (.iconst 1, 1) := by decide +kernel
theorem dL_law_650 : decode cL_law 650 = .ok (.iadd, 1) := by decide +kernel
theorem dL_law_651 : decode cL_law 651 = .ok (.iaload, 1) := by decide +kernel
theorem dL_law_652 : decode cL_law 652 = .ok (.aload_n 0, 1) := by decide +kernel
theorem dL_law_653 : decode cL_law 653 = .ok (.iload_n 3, 1) := by decide +kernel
theorem dL_law_654 : decode cL_law 654 = .ok (.iconst 2, 1) := by decide +kernel
theorem dL_law_655 : decode cL_law 655 = .ok (.iadd, 1) := by decide +kernel
theorem dL_law_656 : decode cL_law 656 = .ok (.iaload, 1) := by decide +kernel
theorem dL_law_657 : decode cL_law 657 = .ok (.invokevirtual 91, 3) := by decide +kernel
theorem dL_law_660 : decode cL_law 660 = .ok (.if_icmp .eq 389, 3) := by decide +kernel
theorem dL_law_663 : decode cL_law 663 = .ok (.iconst 0, 1) := by decide +kernel
theorem dL_law_664 : decode cL_law 664 = .ok (.ireturn, 1) := by decide +kernel
theorem dL_law_665 : decode cL_law 665 = .ok (.aload_n 1, 1) := by decide +kernel
theorem dL_law_666 : decode cL_law 666 = .ok (.aload_n 0, 1) := by decide +kernel
theorem dL_law_667 : decode cL_law 667 = .ok (.iload_n 3, 1) := by decide +kernel
theorem dL_law_668 : decode cL_law 668 = .ok (.iconst 1, 1) := by decide +kernel
theorem dL_law_669 : decode cL_law 669 = .ok (.iadd, 1) := by decide +kernel
theorem dL_law_670 : decode cL_law 670 = .ok (.iaload, 1) := by decide +kernel
theorem dL_law_671 : decode cL_law 671 = .ok (.aload_n 0, 1) := by decide +kernel
theorem dL_law_672 : decode cL_law 672 = .ok (.iload_n 3, 1) := by decide +kernel
theorem dL_law_673 : decode cL_law 673 = .ok (.iconst 2, 1) := by decide +kernel
theorem dL_law_674 : decode cL_law 674 = .ok (.iadd, 1) := by decide +kernel
theorem dL_law_675 : decode cL_law 675 = .ok (.iaload, 1) := by decide +kernel
theorem dL_law_676 : decode cL_law 676 = .ok (.invokevirtual 92, 3) := by decide +kernel
theorem dL_law_679 : decode cL_law 679 = .ok (.aload_n 2, 1) := by decide +kernel
theorem dL_law_680 : decode cL_law 680 = .ok (.aload_n 0, 1) := by decide +kernel
theorem dL_law_681 : decode cL_law 681 = .ok (.iload_n 3, 1) := by decide +kernel
theorem dL_law_682 : decode cL_law 682 = .ok (.iconst 1, 1) := by decide +kernel
theorem dL_law_683 : decode cL_law 683 = .ok (.iadd, 1) := by decide +kernel
theorem dL_law_684 : decode cL_law 684 = .ok (.iaload, 1) := by decide +kernel
theorem dL_law_685 : decode cL_law 685 = .ok (.aload_n 0, 1) := by decide +kernel
theorem dL_law_686 : decode cL_law 686 = .ok (.iload_n 3, 1) := by decide +kernel
theorem dL_law_687 : decode cL_law 687 = .ok (.iconst 2, 1) := by decide +kernel
theorem dL_law_688 : decode cL_law 688 = .ok (.iadd, 1) := by decide +kernel
theorem dL_law_689 : decode cL_law 689 = .ok (.iaload, 1) := by decide +kernel
theorem dL_law_690 : decode cL_law 690 = .ok (.invokevirtual 95, 3) := by decide +kernel
theorem dL_law_693 : decode cL_law 693 = .ok (.if_icmp .eq 356, 3) := by decide +kernel
theorem dL_law_696 : decode cL_law 696 = .ok (.iconst 0, 1) := by decide +kernel
theorem dL_law_697 : decode cL_law 697 = .ok (.ireturn, 1) := by decide +kernel
theorem dL_law_698 : decode cL_law 698 = .ok (.aload_n 1, 1) := by decide +kernel
theorem dL_law_699 : decode cL_law 699 = .ok (.aload_n 0, 1) := by decide +kernel
theorem dL_law_700 : decode cL_law 700 = .ok (.iload_n 3, 1) := by decide +kernel
theorem dL_law_701 : decode cL_law 701 = .ok (.iconst 1, 1) := by decide +kernel
theorem dL_law_702 : decode cL_law 702 = .ok (.iadd, 1) := by decide +kernel
theorem dL_law_703 : decode cL_law 703 = .ok (.iaload, 1) := by decide +kernel
theorem dL_law_704 : decode cL_law 704 = .ok (.invokevirtual 96, 3) := by decide +kernel
theorem dL_law_707 : decode cL_law 707 = .ok (.aload_n 2, 1) := by decide +kernel
theorem dL_law_708 : decode cL_law 708 = .ok (.aload_n 0, 1) := by decide +kernel
theorem dL_law_709 : decode cL_law 709 = .ok (.iload_n 3, 1) := by decide +kernel
theorem dL_law_710 : decode cL_law 710 = .ok (.iconst 1, 1) := by decide +kernel
theorem dL_law_711 : decode cL_law 711 = .ok (.iadd, 1) := by decide +kernel
theorem dL_law_712 : decode cL_law 712 = .ok (.iaload, 1) := by decide +kernel
theorem dL_law_713 : decode cL_law 713 = .ok (.invokevirtual 99, 3) := by decide +kernel
theorem dL_law_716 : decode cL_law 716 = .ok (.if_icmp .eq 333, 3) := by decide +kernel
theorem dL_law_719 : decode cL_law 719 = .ok (.iconst 0, 1) := by decide +kernel
theorem dL_law_720 : decode cL_law 720 = .ok (.ireturn, 1) := by decide +kernel
theorem dL_law_721 : decode cL_law 721 = .ok (.aload_n 1, 1) := by decide +kernel
theorem dL_law_722 : decode cL_law 722 = .ok (.aload_n 0, 1) := by decide +kernel
theorem dL_law_723 : decode cL_law 723 = .ok (.iload_n 3, 1) := by decide +kernel
theorem dL_law_724 : decode cL_law 724 = .ok (.iconst 1, 1) := by decide +kernel
theorem dL_law_725 : decode cL_law 725 = .ok (.iadd, 1) := by decide +kernel
theorem dL_law_726 : decode cL_law 726 = .ok (.iaload, 1) := by decide +kernel
theorem dL_law_727 : decode cL_law 727 = .ok (.aload_n 0, 1) := by decide +kernel
theorem dL_law_728 : decode cL_law 728 = .ok (.iload_n 3, 1) := by decide +kernel
theorem dL_law_729 : decode cL_law 729 = .ok (.iconst 2, 1) := by decide +kernel
theorem dL_law_730 : decode cL_law 730 = .ok (.iadd, 1) := by decide +kernel
theorem dL_law_731 : decode cL_law 731 = .ok (.iaload, 1) := by decide +kernel
theorem dL_law_732 : decode cL_law 732 = .ok (.invokevirtual 100, 3) := by decide +kernel
theorem dL_law_735 : decode cL_law 735 = .ok (.aload_n 2, 1) := by decide +kernel
theorem dL_law_736 : decode cL_law 736 = .ok (.aload_n 0, 1) := by decide +kernel
theorem dL_law_737 : decode cL_law 737 = .ok (.iload_n 3, 1) := by decide +kernel
theorem dL_law_738 : decode cL_law 738 = .ok (.iconst 1, 1) := by decide +kernel
theorem dL_law_739 : decode cL_law 739 = .ok (.iadd, 1) := by decide +kernel
theorem dL_law_740 : decode cL_law 740 = .ok (.iaload, 1) := by decide +kernel
theorem dL_law_741 : decode cL_law 741 = .ok (.aload_n 0, 1) := by decide +kernel
theorem dL_law_742 : decode cL_law 742 = .ok (.iload_n 3, 1) := by decide +kernel
theorem dL_law_743 : decode cL_law 743 = .ok (.iconst 2, 1) := by decide +kernel
theorem dL_law_744 : decode cL_law 744 = .ok (.iadd, 1) := by decide +kernel
theorem dL_law_745 : decode cL_law 745 = .ok (.iaload, 1) := by decide +kernel
theorem dL_law_746 : decode cL_law 746 = .ok (.invokevirtual 103, 3) := by decide +kernel
theorem dL_law_749 : decode cL_law 749 = .ok (.if_icmp .eq 300, 3) := by decide +kernel
theorem dL_law_752 : decode cL_law 752 = .ok (.iconst 0, 1) := by decide +kernel
theorem dL_law_753 : decode cL_law 753 = .ok (.ireturn, 1) := by decide +kernel
theorem dL_law_754 : decode cL_law 754 = .ok (.aload_n 1, 1) := by decide +kernel
theorem dL_law_755 : decode cL_law 755 = .ok (.aload_n 0, 1) := by decide +kernel
theorem dL_law_756 : decode cL_law 756 = .ok (.iload_n 3, 1) := by decide +kernel
theorem dL_law_757 : decode cL_law 757 = .ok (.iconst 1, 1) := by decide +kernel
theorem dL_law_758 : decode cL_law 758 = .ok (.iadd, 1) := by decide +kernel
theorem dL_law_759 : decode cL_law 759 = .ok (.iaload, 1) := by decide +kernel
theorem dL_law_760 : decode cL_law 760 = .ok (.aload_n 0, 1) := by decide +kernel
theorem dL_law_761 : decode cL_law 761 = .ok (.iload_n 3, 1) := by decide +kernel
theorem dL_law_762 : decode cL_law 762 = .ok (.iconst 2, 1) := by decide +kernel
theorem dL_law_763 : decode cL_law 763 = .ok (.iadd, 1) := by decide +kernel
theorem dL_law_764 : decode cL_law 764 = .ok (.iaload, 1) := by decide +kernel
theorem dL_law_765 : decode cL_law 765 = .ok (.aload_n 0, 1) := by decide +kernel
theorem dL_law_766 : decode cL_law 766 = .ok (.iload_n 3, 1) := by decide +kernel
theorem dL_law_767 : decode cL_law 767 = .ok (.iconst 3, 1) := by decide +kernel
theorem dL_law_768 : decode cL_law 768 = .ok (.iadd, 1) := by decide +kernel
theorem dL_law_769 : decode cL_law 769 = .ok (.iaload, 1) := by decide +kernel
theorem dL_law_770 : decode cL_law 770 = .ok (.invokevirtual 104, 3) := by decide +kernel
theorem dL_law_773 : decode cL_law 773 = .ok (.aload_n 2, 1) := by decide +kernel
theorem dL_law_774 : decode cL_law 774 = .ok (.aload_n 0, 1) := by decide +kernel
theorem dL_law_775 : decode cL_law 775 = .ok (.iload_n 3, 1) := by decide +kernel
theorem dL_law_776 : decode cL_law 776 = .ok (.iconst 1, 1) := by decide +kernel
theorem dL_law_777 : decode cL_law 777 = .ok (.iadd, 1) := by decide +kernel
theorem dL_law_778 : decode cL_law 778 = .ok (.iaload, 1) := by decide +kernel
theorem dL_law_779 : decode cL_law 779 = .ok (.aload_n 0, 1) := by decide +kernel
theorem dL_law_780 : decode cL_law 780 = .ok (.iload_n 3, 1) := by decide +kernel
theorem dL_law_781 : decode cL_law 781 = .ok (.iconst 2, 1) := by decide +kernel
theorem dL_law_782 : decode cL_law 782 = .ok (.iadd, 1) := by decide +kernel
theorem dL_law_783 : decode cL_law 783 = .ok (.iaload, 1) := by decide +kernel
theorem dL_law_784 : decode cL_law 784 = .ok (.aload_n 0, 1) := by decide +kernel
theorem dL_law_785 : decode cL_law 785 = .ok (.iload_n 3, 1) := by decide +kernel
theorem dL_law_786 : decode cL_law 786 = .ok (.iconst 3, 1) := by decide +kernel
theorem dL_law_787 : decode cL_law 787 = .ok (.iadd, 1) := by decide +kernel
theorem dL_law_788 : decode cL_law 788 = .ok (.iaload, 1) := by decide +kernel
theorem dL_law_789 : decode cL_law 789 = .ok (.invokevirtual 108, 3) := by decide +kernel
theorem dL_law_792 : decode cL_law 792 = .ok (.if_icmp .eq 257, 3) := by decide +kernel
theorem dL_law_795 : decode cL_law 795 = .ok (.iconst 0, 1) := by decide +kernel
theorem dL_law_796 : decode cL_law 796 = .ok (.ireturn, 1) := by decide +kernel
theorem dL_law_797 : decode cL_law 797 = .ok (.aload_n 1, 1) := by decide +kernel
theorem dL_law_798 : decode cL_law 798 = .ok (.aload_n 0, 1) := by decide +kernel
theorem dL_law_799 : decode cL_law 799 = .ok (.iload_n 3, 1) := by decide +kernel
theorem dL_law_800 : decode cL_law 800 = .ok (.iconst 1, 1) := by decide +kernel
theorem dL_law_801 : decode cL_law 801 = .ok (.iadd, 1) := by decide +kernel
theorem dL_law_802 : decode cL_law 802 = .ok (.iaload, 1) := by decide +kernel
theorem dL_law_803 : decode cL_law 803 = .ok (.invokevirtual 109, 3) := by decide +kernel
theorem dL_law_806 : decode cL_law 806 = .ok (.aload_n 2, 1) := by decide +kernel
theorem dL_law_807 : decode cL_law 807 = .ok (.aload_n 0, 1) := by decide +kernel
theorem dL_law_808 : decode cL_law 808 = .ok (.iload_n 3, 1) := by decide +kernel
theorem dL_law_809 : decode cL_law 809 = .ok (.iconst 1, 1) := by decide +kernel
theorem dL_law_810 : decode cL_law 810 = .ok (.iadd, 1) := by decide +kernel
theorem dL_law_811 : decode cL_law 811 = .ok (.iaload, 1) := by decide +kernel
theorem dL_law_812 : decode cL_law 812 = .ok (.invokevirtual 112, 3) := by decide +kernel
theorem dL_law_815 : decode cL_law 815 = .ok (.if_icmp .eq 234, 3) := by decide +kernel
theorem dL_law_818 : decode cL_law 818 = .ok (.iconst 0, 1) := by decide +kernel
theorem dL_law_819 : decode cL_law 819 = .ok (.ireturn, 1) := by decide +kernel
theorem dL_law_820 : decode cL_law 820 = .ok (.aload_n 1, 1) := by decide +kernel
theorem dL_law_821 : decode cL_law 821 = .ok (.aload_n 0, 1) := by decide +kernel
theorem dL_law_822 : decode cL_law 822 = .ok (.iload_n 3, 1) := by decide +kernel
theorem dL_law_823 : decode cL_law 823 = .ok (.iconst 1, 1) := by decide +kernel
theorem dL_law_824 : decode cL_law 824 = .ok (.iadd, 1) := by decide +kernel
theorem dL_law_825 : decode cL_law 825 = .ok (.iaload, 1) := by decide +kernel
theorem dL_law_826 : decode cL_law 826 = .ok (.aload_n 0, 1) := by decide +kernel
theorem dL_law_827 : decode cL_law 827 = .ok (.iload_n 3, 1) := by decide +kernel
theorem dL_law_828 : decode cL_law 828 = .ok (.iconst 2, 1) := by decide +kernel
theorem dL_law_829 : decode cL_law 829 = .ok (.iadd, 1) := by decide +kernel
theorem dL_law_830 : decode cL_law 830 = .ok (.iaload, 1) := by decide +kernel
theorem dL_law_831 : decode cL_law 831 = .ok (.aload_n 0, 1) := by decide +kernel
theorem dL_law_832 : decode cL_law 832 = .ok (.iload_n 3, 1) := by decide +kernel
theorem dL_law_833 : decode cL_law 833 = .ok (.iconst 3, 1) := by decide +kernel
theorem dL_law_834 : decode cL_law 834 = .ok (.iadd, 1) := by decide +kernel
theorem dL_law_835 : decode cL_law 835 = .ok (.iaload, 1) := by decide +kernel
theorem dL_law_836 : decode cL_law 836 = .ok (.aload_n 0, 1) := by decide +kernel
theorem dL_law_837 : decode cL_law 837 = .ok (.iload_n 3, 1) := by decide +kernel
theorem dL_law_838 : decode cL_law 838 = .ok (.iconst 4, 1) := by decide +kernel
theorem dL_law_839 : decode cL_law 839 = .ok (.iadd, 1) := by decide +kernel
theorem dL_law_840 : decode cL_law 840 = .ok (.iaload, 1) := by decide +kernel
theorem dL_law_841 : decode cL_law 841 = .ok (.invokevirtual 113, 3) := by decide +kernel
theorem dL_law_844 : decode cL_law 844 = .ok (.aload_n 2, 1) := by decide +kernel
theorem dL_law_845 : decode cL_law 845 = .ok (.aload_n 0, 1) := by decide +kernel
theorem dL_law_846 : decode cL_law 846 = .ok (.iload_n 3, 1) := by decide +kernel
theorem dL_law_847 : decode cL_law 847 = .ok (.iconst 1, 1) := by decide +kernel
theorem dL_law_848 : decode cL_law 848 = .ok (.iadd, 1) := by decide +kernel
theorem dL_law_849 : decode cL_law 849 = .ok (.iaload, 1) := by decide +kernel
theorem dL_law_850 : decode cL_law 850 = .ok (.aload_n 0, 1) := by decide +kernel
theorem dL_law_851 : decode cL_law 851 = .ok (.iload_n 3, 1) := by decide +kernel
theorem dL_law_852 : decode cL_law 852 = .ok (.iconst 2, 1) := by decide +kernel
theorem dL_law_853 : decode cL_law 853 = .ok (.iadd, 1) := by decide +kernel
theorem dL_law_854 : decode cL_law 854 = .ok (.iaload, 1) := by decide +kernel
theorem dL_law_855 : decode cL_law 855 = .ok (.aload_n 0, 1) := by decide +kernel
theorem dL_law_856 : decode cL_law 856 = .ok (.iload_n 3, 1) := by decide +kernel
theorem dL_law_857 : decode cL_law 857 = .ok (.iconst 3, 1) := by decide +kernel
theorem dL_law_858 : decode cL_law 858 = .ok (.iadd, 1) := by decide +kernel
theorem dL_law_859 : decode cL_law 859 = .ok (.iaload, 1) := by decide +kernel
theorem dL_law_860 : decode cL_law 860 = .ok (.aload_n 0, 1) := by decide +kernel
theorem dL_law_861 : decode cL_law 861 = .ok (.iload_n 3, 1) := by decide +kernel
theorem dL_law_862 : decode cL_law 862 = .ok (.iconst 4, 1) := by decide +kernel
theorem dL_law_863 : decode cL_law 863 = .ok (.iadd, 1) := by decide +kernel
theorem dL_law_864 : decode cL_law 864 = .ok (.iaload, 1) := by decide +kernel
theorem dL_law_865 : decode cL_law 865 = .ok (.invokevirtual 117, 3) := by decide +kernel
theorem dL_law_868 : decode cL_law 868 = .ok (.if_icmp .eq 181, 3) := by decide +kernel
theorem dL_law_871 : decode cL_law 871 = .ok (.iconst 0, 1) := by decide +kernel
theorem dL_law_872 : decode cL_law 872 = .ok (.ireturn, 1) := by decide +kernel
theorem dL_law_873 : decode cL_law 873 = .ok (.aload_n 1, 1) := by decide +kernel
theorem dL_law_874 : decode cL_law 874 = .ok (.aload_n 0, 1) := by decide +kernel
theorem dL_law_875 : decode cL_law 875 = .ok (.iload_n 3, 1) := by decide +kernel
theorem dL_law_876 : decode cL_law 876 = .ok (.iconst 1, 1) := by decide +kernel
theorem dL_law_877 : decode cL_law 877 = .ok (.iadd, 1) := by decide +kernel
theorem dL_law_878 : decode cL_law 878 = .ok (.iaload, 1) := by decide +kernel
theorem dL_law_879 : decode cL_law 879 = .ok (.aload_n 0, 1) := by decide +kernel
theorem dL_law_880 : decode cL_law 880 = .ok (.iload_n 3, 1) := by decide +kernel
theorem dL_law_881 : decode cL_law 881 = .ok (.iconst 2, 1) := by decide +kernel
theorem dL_law_882 : decode cL_law 882 = .ok (.iadd, 1) := by decide +kernel
theorem dL_law_883 : decode cL_law 883 = .ok (.iaload, 1) := by decide +kernel
theorem dL_law_884 : decode cL_law 884 = .ok (.aload_n 0, 1) := by decide +kernel
theorem dL_law_885 : decode cL_law 885 = .ok (.iload_n 3, 1) := by decide +kernel
theorem dL_law_886 : decode cL_law 886 = .ok (.iconst 3, 1) := by decide +kernel
theorem dL_law_887 : decode cL_law 887 = .ok (.iadd, 1) := by decide +kernel
theorem dL_law_888 : decode cL_law 888 = .ok (.iaload, 1) := by decide +kernel
theorem dL_law_889 : decode cL_law 889 = .ok (.invokevirtual 118, 3) := by decide +kernel
theorem dL_law_892 : decode cL_law 892 = .ok (.aload_n 2, 1) := by decide +kernel
theorem dL_law_893 : decode cL_law 893 = .ok (.aload_n 0, 1) := by decide +kernel
theorem dL_law_894 : decode cL_law 894 = .ok (.iload_n 3, 1) := by decide +kernel
theorem dL_law_895 : decode cL_law 895 = .ok (.iconst 1, 1) := by decide +kernel
theorem dL_law_896 : decode cL_law 896 = .ok (.iadd, 1) := by decide +kernel
theorem dL_law_897 : decode cL_law 897 = .ok (.iaload, 1) := by decide +kernel
theorem dL_law_898 : decode cL_law 898 = .ok (.aload_n 0, 1) := by decide +kernel
theorem dL_law_899 : decode cL_law 899 = .ok (.iload_n 3, 1) := by decide +kernel
theorem dL_law_900 : decode cL_law 900 = .ok (.iconst 2, 1) := by decide +kernel
theorem dL_law_901 : decode cL_law 901 = .ok (.iadd, 1) := by decide +kernel
theorem dL_law_902 : decode cL_law 902 = .ok (.iaload, 1) := by decide +kernel
theorem dL_law_903 : decode cL_law 903 = .ok (.aload_n 0, 1) := by decide +kernel
theorem dL_law_904 : decode cL_law 904 = .ok (.iload_n 3, 1) := by decide +kernel
theorem dL_law_905 : decode cL_law 905 = .ok (.iconst 3, 1) := by decide +kernel
theorem dL_law_906 : decode cL_law 906 = .ok (.iadd, 1) := by decide +kernel
theorem dL_law_907 : decode cL_law 907 = .ok (.iaload, 1) := by decide +kernel
theorem dL_law_908 : decode cL_law 908 = .ok (.invokevirtual 121, 3) := by decide +kernel
theorem dL_law_911 : decode cL_law 911 = .ok (.if_icmp .eq 138, 3) := by decide +kernel
theorem dL_law_914 : decode cL_law 914 = .ok (.iconst 0, 1) := by decide +kernel
theorem dL_law_915 : decode cL_law 915 = .ok (.ireturn, 1) := by decide +kernel
theorem dL_law_916 : decode cL_law 916 = .ok (.aload_n 1, 1) := by decide +kernel
theorem dL_law_917 : decode cL_law 917 = .ok (.aload_n 0, 1) := by decide +kernel
theorem dL_law_918 : decode cL_law 918 = .ok (.iload_n 3, 1) := by decide +kernel
theorem dL_law_919 : decode cL_law 919 = .ok (.iconst 1, 1) := by decide +kernel
theorem dL_law_920 : decode cL_law 920 = .ok (.iadd, 1) := by decide +kernel
theorem dL_law_921 : decode cL_law 921 = .ok (.iaload, 1) := by decide +kernel
theorem dL_law_922 : decode cL_law 922 = .ok (.aload_n 0, 1) := by decide +kernel
theorem dL_law_923 : decode cL_law 923 = .ok (.iload_n 3, 1) := by decide +kernel
theorem dL_law_924 : decode cL_law 924 = .ok (.iconst 2, 1) := by decide +kernel
theorem dL_law_925 : decode cL_law 925 = .ok (.iadd, 1) := by decide +kernel
theorem dL_law_926 : decode cL_law 926 = .ok (.iaload, 1) := by decide +kernel
theorem dL_law_927 : decode cL_law 927 = .ok (.aload_n 0, 1) := by decide +kernel
theorem dL_law_928 : decode cL_law 928 = .ok (.iload_n 3, 1) := by decide +kernel
theorem dL_law_929 : decode cL_law 929 = .ok (.iconst 3, 1) := by decide +kernel
theorem dL_law_930 : decode cL_law 930 = .ok (.iadd, 1) := by decide +kernel
theorem dL_law_931 : decode cL_law 931 = .ok (.iaload, 1) := by decide +kernel
theorem dL_law_932 : decode cL_law 932 = .ok (.aload_n 0, 1) := by decide +kernel
theorem dL_law_933 : decode cL_law 933 = .ok (.iload_n 3, 1) := by decide +kernel
theorem dL_law_934 : decode cL_law 934 = .ok (.iconst 4, 1) := by decide +kernel
theorem dL_law_935 : decode cL_law 935 = .ok (.iadd, 1) := by decide +kernel
theorem dL_law_936 : decode cL_law 936 = .ok (.iaload, 1) := by decide +kernel
theorem dL_law_937 : decode cL_law 937 = .ok (.aload_n 0, 1) := by decide +kernel
theorem dL_law_938 : decode cL_law 938 = .ok (.iload_n 3, 1) := by decide +kernel
theorem dL_law_939 : decode cL_law 939 = .ok (.iconst 5, 1) := by decide +kernel
theorem dL_law_940 : decode cL_law 940 = .ok (.iadd, 1) := by decide +kernel
theorem dL_law_941 : decode cL_law 941 = .ok (.iaload, 1) := by decide +kernel
theorem dL_law_942 : decode cL_law 942 = .ok (.invokevirtual 122, 3) := by decide +kernel
theorem dL_law_945 : decode cL_law 945 = .ok (.aload_n 2, 1) := by decide +kernel
theorem dL_law_946 : decode cL_law 946 = .ok (.aload_n 0, 1) := by decide +kernel
theorem dL_law_947 : decode cL_law 947 = .ok (.iload_n 3, 1) := by decide +kernel
theorem dL_law_948 : decode cL_law 948 = .ok (.iconst 1, 1) := by decide +kernel
theorem dL_law_949 : decode cL_law 949 = .ok (.iadd, 1) := by decide +kernel
theorem dL_law_950 : decode cL_law 950 = .ok (.iaload, 1) := by decide +kernel
theorem dL_law_951 : decode cL_law 951 = .ok (.aload_n 0, 1) := by decide +kernel
theorem dL_law_952 : decode cL_law 952 = .ok (.iload_n 3, 1) := by decide +kernel
theorem dL_law_953 : decode cL_law 953 = .ok (.iconst 2, 1) := by decide +kernel
theorem dL_law_954 : decode cL_law 954 = .ok (.iadd, 1) := by decide +kernel
theorem dL_law_955 : decode cL_law 955 = .ok (.iaload, 1) := by decide +kernel
theorem dL_law_956 : decode cL_law 956 = .ok (.aload_n 0, 1) := by decide +kernel
theorem dL_law_957 : decode cL_law 957 = .ok (.iload_n 3, 1) := by decide +kernel
theorem dL_law_958 : decode cL_law 958 = .ok (.iconst 3, 1) := by decide +kernel
theorem dL_law_959 : decode cL_law 959 = .ok (.iadd, 1) := by decide +kernel
theorem dL_law_960 : decode cL_law 960 = .ok (.iaload, 1) := by decide +kernel
theorem dL_law_961 : decode cL_law 961 = .ok (.aload_n 0, 1) := by decide +kernel
theorem dL_law_962 : decode cL_law 962 = .ok (.iload_n 3, 1) := by decide +kernel
theorem dL_law_963 : decode cL_law 963 = .ok (.iconst 4, 1) := by decide +kernel
theorem dL_law_964 : decode cL_law 964 = .ok (.iadd, 1) := by decide +kernel
theorem dL_law_965 : decode cL_law 965 = .ok (.iaload, 1) := by decide +kernel
theorem dL_law_966 : decode cL_law 966 = .ok (.aload_n 0, 1) := by decide +kernel
theorem dL_law_967 : decode cL_law 967 = .ok (.iload_n 3, 1) := by decide +kernel
theorem dL_law_968 : decode cL_law 968 = .ok (.iconst 5, 1) := by decide +kernel
theorem dL_law_969 : decode cL_law 969 = .ok (.iadd, 1) := by decide +kernel
theorem dL_law_970 : decode cL_law 970 = .ok (.iaload, 1) := by decide +kernel
theorem dL_law_971 : decode cL_law 971 = .ok (.invokevirtual 126, 3) := by decide +kernel
theorem dL_law_974 : decode cL_law 974 = .ok (.if_icmp .eq 75, 3) := by decide +kernel
theorem dL_law_977 : decode cL_law 977 = .ok (.iconst 0, 1) := by decide +kernel
theorem dL_law_978 : decode cL_law 978 = .ok (.ireturn, 1) := by decide +kernel
theorem dL_law_979 : decode cL_law 979 = .ok (.aload_n 1, 1) := by decide +kernel
theorem dL_law_980 : decode cL_law 980 = .ok (.aload_n 0, 1) := by decide +kernel
theorem dL_law_981 : decode cL_law 981 = .ok (.iload_n 3, 1) := by decide +kernel
theorem dL_law_982 : decode cL_law 982 = .ok (.iconst 1, 1) := by decide +kernel
theorem dL_law_983 : decode cL_law 983 = .ok (.iadd, 1) := by decide +kernel
theorem dL_law_984 : decode cL_law 984 = .ok (.iaload, 1) := by decide +kernel
theorem dL_law_985 : decode cL_law 985 = .ok (.aload_n 0, 1) := by decide +kernel
theorem dL_law_986 : decode cL_law 986 = .ok (.iload_n 3, 1) := by decide +kernel
theorem dL_law_987 : decode cL_law 987 = .ok (.iconst 2, 1) := by decide +kernel
theorem dL_law_988 : decode cL_law 988 = .ok (.iadd, 1) := by decide +kernel
theorem dL_law_989 : decode cL_law 989 = .ok (.iaload, 1) := by decide +kernel
theorem dL_law_990 : decode cL_law 990 = .ok (.invokevirtual 127, 3) := by decide +kernel
theorem dL_law_993 : decode cL_law 993 = .ok (.aload_n 2, 1) := by decide +kernel
theorem dL_law_994 : decode cL_law 994 = .ok (.aload_n 0, 1) := by decide +kernel
theorem dL_law_995 : decode cL_law 995 = .ok (.iload_n 3, 1) := by decide +kernel
theorem dL_law_996 : decode cL_law 996 = .ok (.iconst 1, 1) := by decide +kernel
theorem dL_law_997 : decode cL_law 997 = .ok (.iadd, 1) := by decide +kernel
theorem dL_law_998 : decode cL_law 998 = .ok (.iaload, 1) := by decide +kernel
theorem dL_law_999 : decode cL_law 999 = .ok (.aload_n 0, 1) := by decide +kernel
theorem dL_law_1000 : decode cL_law 1000 = .ok (.iload_n 3, 1) := by decide +kernel
theorem dL_law_1001 : decode cL_law 1001 = .ok (.iconst 2, 1) := by decide +kernel
theorem dL_law_1002 : decode cL_law 1002 = .ok (.iadd, 1) := by decide +kernel
theorem dL_law_1003 : decode cL_law 1003 = .ok (.iaload, 1) := by decide +kernel
theorem dL_law_1004 : decode cL_law 1004 = .ok (.invokevirtual 130, 3) := by decide +kernel
theorem dL_law_1007 : decode cL_law 1007 = .ok (.if_icmp .eq 42, 3) := by decide +kernel
theorem dL_law_1010 : decode cL_law 1010 = .ok (.iconst 0, 1) := by decide +kernel
theorem dL_law_1011 : decode cL_law 1011 = .ok (.ireturn, 1) := by decide +kernel
theorem dL_law_1012 : decode cL_law 1012 = .ok (.aload_n 1, 1) := by decide +kernel
theorem dL_law_1013 : decode cL_law 1013 = .ok (.aload_n 0, 1) := by decide +kernel
theorem dL_law_1014 : decode cL_law 1014 = .ok (.iload_n 3, 1) := by decide +kernel
theorem dL_law_1015 : decode cL_law 1015 = .ok (.iconst 1, 1) := by decide +kernel
theorem dL_law_1016 : decode cL_law 1016 = .ok (.iadd, 1) := by decide +kernel
theorem dL_law_1017 : decode cL_law 1017 = .ok (.iaload, 1) := by decide +kernel
theorem dL_law_1018 : decode cL_law 1018 = .ok (.invokevirtual 131, 3) := by decide +kernel
theorem dL_law_1021 : decode cL_law 1021 = .ok (.aload_n 2, 1) := by decide +kernel
theorem dL_law_1022 : decode cL_law 1022 = .ok (.aload_n 0, 1) := by decide +kernel
theorem dL_law_1023 : decode cL_law 1023 = .ok (.iload_n 3, 1) := by decide +kernel
theorem dL_law_1024 : decode cL_law 1024 = .ok (.iconst 1, 1) := by decide +kernel
theorem dL_law_1025 : decode cL_law 1025 = .ok (.iadd, 1) := by decide +kernel
theorem dL_law_1026 : decode cL_law 1026 = .ok (.iaload, 1) := by decide +kernel
theorem dL_law_1027 : decode cL_law 1027 = .ok (.invokevirtual 134, 3) := by decide +kernel
theorem dL_law_1030 : decode cL_law 1030 = .ok (.if_icmp .eq 19, 3) := by decide +kernel
theorem dL_law_1033 : decode cL_law 1033 = .ok (.iconst 0, 1) := by decide +kernel
theorem dL_law_1034 : decode cL_law 1034 = .ok (.ireturn, 1) := by decide +kernel
theorem dL_law_1035 : decode cL_law 1035 = .ok (.aload_n 1, 1) := by decide +kernel
theorem dL_law_1036 : decode cL_law 1036 = .ok (.invokevirtual 135, 3) := by decide +kernel
theorem dL_law_1039 : decode cL_law 1039 = .ok (.aload_n 2, 1) := by decide +kernel
theorem dL_law_1040 : decode cL_law 1040 = .ok (.invokevirtual 139, 3) := by decide +kernel
theorem dL_law_1043 : decode cL_law 1043 = .ok (.lcmp, 1) := by decide +kernel
theorem dL_law_1044 : decode cL_law 1044 = .ok (.ifCond .eq 5, 3) := by decide +kernel
theorem dL_law_1047 : decode cL_law 1047 = .ok (.iconst 0, 1) := by decide +kernel
theorem dL_law_1048 : decode cL_law 1048 = .ok (.ireturn, 1) := by decide +kernel
theorem dL_law_1049 : decode cL_law 1049 = .ok (.iinc 3 6, 3) := by decide +kernel
theorem dL_law_1052 : decode cL_law 1052 = .ok (.goto (-1034), 3) := by decide +kernel
theorem dL_law_1055 : decode cL_law 1055 = .ok (.iconst 1, 1) := by decide +kernel
theorem dL_law_1056 : decode cL_law 1056 = .ok (.ireturn, 1) := by decide +kernel
end
section
/-! THE VIRTUAL LAYER. Cells have numbers (tz_L says what each is); a store gives the ints of every cell (fields of an object, items of an array) and the longs. -/
abbrev tzS : Type := (Nat → Nat → Int32) × (Nat → Nat → Int64)
/-- one int put -/
def tz_st (σ : tzS) (k j : Nat) (v : Int32) : tzS := (fun a b => if a = k then (if b = j then v else σ.1 a b) else σ.1 a b, σ.2)
/-- one long put -/
def tz_sl (σ : tzS) (k j : Nat) (v : Int64) : tzS := (σ.1, fun a b => if a = k then (if b = j then v else σ.2 a b) else σ.2 a b)
/-- n items of cell k0 from sp on, to cell k1 from dp on -/
def tz_cp (σ : tzS) (k0 k1 sp dp n : Nat) : tzS := (fun a b => if a = k1 then va_cpy (σ.1 k0) (σ.1 k1) sp dp n b else σ.1 a b, σ.2)
abbrev tzD : Type := (Nat × List (Option Nat)) ⊕ (Nat × Nat × Nat)
def tz_L : List tzD := [.inl (9, [some 1, some 3, some 4, some 14, some 19, some 35, some 56, some 96, some 100, some 108, none, none, none, none, none, none, none]), .inl (8, [some 2, none]), .inr (0, 200, 0), .inl (3, [none, none, none, none, none, none, none]), .inl (6, [none, none, none, some 5, some 6, some 7, some 8, some 9, some 10, some 11, some 12, some 13]), .inr (0, 12, 0), .inr (0, 12, 0), .inr (3, 12, 109), .inr (3, 12, 121), .inr (0, 108, 0), .inr (0, 108, 0), .inr (0, 108, 0), .inr (0, 108, 0), .inr (2, 108, 0), .inl (1, [none, some 15, some 16, some 17, some 18]), .inr (0, 100, 0), .inr (0, 100, 0), .inr (0, 100, 0), .inr (0, 100, 0), .inl (0, [some 20, some 21, none, none, none]), .inr (3, 13, 22), .inr (0, 108, 0), .inr (0, 13, 0), .inr (0, 13, 0), .inr (0, 13, 0), .inr (0, 13, 0), .inr (0, 13, 0), .inr (0, 13, 0), .inr (0, 13, 0), .inr (0, 13, 0), .inr (0, 13, 0), .inr (0, 13, 0), .inr (0, 13, 0), .inr (0, 13, 0), .inr (0, 13, 0), .inl (5, [some 36, some 37]), .inr (3, 9, 38), .inr (3, 9, 47), .inr (0, 13, 0), .inr (0, 13, 0), .inr (0, 13, 0), .inr (0, 13, 0), .inr (0, 13, 0), .inr (0, 13, 0), .inr (0, 13, 0), .inr (0, 13, 0), .inr (0, 13, 0), .inr (0, 13, 0), .inr (0, 13, 0), .inr (0, 13, 0), .inr (0, 13, 0), .inr (0, 13, 0), .inr (0, 13, 0), .inr (0, 13, 0), .inr (0, 13, 0), .inr (0, 13, 0), .inl (2, [some 57, some 58, some 59, some 75]), .inr (0, 9, 0), .inr (0, 9, 0), .inl (0, [some 60, some 61, none, none, none]), .inr (3, 13, 62), .inr (0, 108, 0), .inr (0, 13, 0), .inr (0, 13, 0), .inr (0, 13, 0), .inr (0, 13, 0), .inr (0, 13, 0), .inr (0, 13, 0), .inr (0, 13, 0), .inr (0, 13, 0), .inr (0, 13, 0), .inr (0, 13, 0), .inr (0, 13, 0), .inr (0, 13, 0), .inr (0, 13, 0), .inl (5, [some 76, some 77]), .inr (3, 9, 78), .inr (3, 9, 87), .inr (0, 13, 0), .inr (0, 13, 0), .inr (0, 13, 0), .inr (0, 13, 0), .inr (0, 13, 0), .inr (0, 13, 0), .inr (0, 13, 0), .inr (0, 13, 0), .inr (0, 13, 0), .inr (0, 13, 0), .inr (0, 13, 0), .inr (0, 13, 0), .inr (0, 13, 0), .inr (0, 13, 0), .inr (0, 13, 0), .inr (0, 13, 0), .inr (0, 13, 0), .inr (0, 13, 0), .inl (4, [some 97, some 98, some 99]), .inr (0, 12, 0), .inr (0, 12, 0), .inr (0, 11, 0), .inl (7, [some 101, some 102, some 103]), .inr (0, 4, 0), .inr (0, 4, 0), .inr (3, 4, 104), .inr (0, 60, 0), .inr (0, 60, 0), .inr (0, 60, 0), .inr (0, 60, 0), .inr (0, 4, 0), .inr (0, 9, 0), .inr (0, 9, 0), .inr (0, 9, 0), .inr (0, 9, 0), .inr (0, 9, 0), .inr (0, 9, 0), .inr (0, 9, 0), .inr (0, 9, 0), .inr (0, 9, 0), .inr (0, 9, 0), .inr (0, 9, 0), .inr (0, 9, 0), .inr (0, 108, 0), .inr (0, 108, 0), .inr (0, 108, 0), .inr (0, 108, 0), .inr (0, 108, 0), .inr (0, 108, 0), .inr (0, 108, 0), .inr (0, 108, 0), .inr (0, 108, 0), .inr (0, 108, 0), .inr (0, 108, 0), .inr (0, 108, 0), .inl (10, [none, some 134, some 135, none, none, none, none, none, none, none, some 136, some 137, some 138, some 139, some 140, some 141, some 142, some 143, none, none, none, none, none, some 144, some 145, some 146, some 147, some 148, some 149, some 150, none, some 151, some 152, some 153, some 154, some 155, none]), .inr (0, 200, 0), .inr (0, 4, 0), .inr (0, 110, 0), .inr (0, 110, 0), .inr (0, 110, 0), .inr (0, 110, 0), .inr (0, 110, 0), .inr (0, 110, 0), .inr (0, 14, 0), .inr (0, 1320, 0), .inr (0, 110, 0), .inr (0, 110, 0), .inr (0, 110, 0), .inr (0, 110, 0), .inr (0, 169, 0), .inr (0, 117, 0), .inr (0, 117, 0), .inr (1, 4, 0), .inr (0, 4, 0), .inr (0, 4, 0), .inr (0, 240, 0), .inr (0, 60, 0)]
def tz_lay (k : Nat) : tzD := tz_L.getD k (.inr (9, 0, 0))
abbrev tz_N : Nat := 156
def tz_fs (ad : Nat → Nat) (f : Nat → Int32) (rs : List (Option Nat)) : List Value := (List.range rs.length).map fun j => match rs[j]? with
  | some (some r) => .ref (ad r)
  | _ => .int (f j)
def tz_ent (ad : Nat → Nat) (cy : Nat → ClassId) (σ : tzS) (k : Nat) : va_E := match tz_lay k with
  | .inl (ci, rs) => .inr (ci, tz_fs ad (σ.1 k) rs)
  | .inr (t, n, b) => .inl (cy t, n, if t = 2 then .inr (.inl (σ.2 k)) else if t = 3 then .inr (.inr (.inr (.inr (fun i => if i < n then some (ad (b + i)) else none)))) else .inl (σ.1 k))
def tz_w (ad : Nat → Nat) (cy : Nat → ClassId) (σ : tzS) : va_W := (List.range tz_N).map fun k => (ad k, tz_ent ad cy σ k)
def tz_ty (cy : Nat → ClassId) : List (ClassId × FieldType) := [(cy 0, .int), (cy 1, .boolean), (cy 2, .long), (cy 3, .array .int)]
def tz_x (ad : Nat → Nat) (v : Value) : Value := match v with
  | .ref k => .ref (ad k)
  | v => v
theorem tz_x_cat (ad : Nat → Nat) (v : Value) : (tz_x ad v).category = v.category := by cases v <;> rfl
theorem tz_w_at {ad : Nat → Nat} {cy : Nat → ClassId} {σ : tzS} {k : Nat} (h : k < tz_N) : (tz_w ad cy σ)[k]? = some (ad k, tz_ent ad cy σ k) := by
  unfold tz_w
  rw [List.getElem?_map, List.getElem?_range h]
  rfl
theorem tz_w_len {ad : Nat → Nat} {cy : Nat → ClassId} {σ : tzS} : (tz_w ad cy σ).length = tz_N := by
  unfold tz_w
  rw [List.length_map, List.length_range]
theorem tz_w_set {ad : Nat → Nat} {cy : Nat → ClassId} {σ σ' : tzS} {k : Nat} {e : va_E} (hk : k < tz_N) (he : tz_ent ad cy σ' k = e) (ho : ∀ j, j < tz_N → j ≠ k → tz_ent ad cy σ' j = tz_ent ad cy σ j) : (tz_w ad cy σ).set k (ad k, e) = tz_w ad cy σ' := by
  apply List.ext_getElem?
  intro i
  by_cases hi : i = k
  · subst hi
    rw [List.getElem?_set_self (by rw [tz_w_len]; exact hk), tz_w_at hk, he]
  · rw [List.getElem?_set_ne (Ne.symm hi)]
    by_cases hn : i < tz_N
    · rw [tz_w_at hn, tz_w_at hn, ho i hn hi]
    · rw [List.getElem?_eq_none (by rw [tz_w_len]; omega), List.getElem?_eq_none (by rw [tz_w_len]; omega)]
/-- the entries of cells that agree -/
theorem tz_ent_eq {ad : Nat → Nat} {cy : Nat → ClassId} {σ σ' : tzS} {k : Nat} (h1 : σ'.1 k = σ.1 k) (h2 : σ'.2 k = σ.2 k) : tz_ent ad cy σ' k = tz_ent ad cy σ k := by
  unfold tz_ent
  rw [h1, h2]
theorem tz_fs_len {ad : Nat → Nat} {f : Nat → Int32} {rs : List (Option Nat)} : (tz_fs ad f rs).length = rs.length := by
  unfold tz_fs
  rw [List.length_map, List.length_range]
theorem tz_fs_int {ad : Nat → Nat} {f : Nat → Int32} {rs : List (Option Nat)} {j : Nat} (h : rs[j]? = some none) : (tz_fs ad f rs)[j]? = some (.int (f j)) := by
  have hj := (List.getElem?_eq_some_iff.mp h).1
  unfold tz_fs
  rw [List.getElem?_map, List.getElem?_range hj]
  simp only [Option.map_some, h]
theorem tz_fs_ref {ad : Nat → Nat} {f : Nat → Int32} {rs : List (Option Nat)} {j r : Nat} (h : rs[j]? = some (some r)) : (tz_fs ad f rs)[j]? = some (.ref (ad r)) := by
  have hj := (List.getElem?_eq_some_iff.mp h).1
  unfold tz_fs
  rw [List.getElem?_map, List.getElem?_range hj]
  simp only [Option.map_some, h]
theorem tz_fs_set {ad : Nat → Nat} {f : Nat → Int32} {rs : List (Option Nat)} {j : Nat} {v : Int32} (h : rs[j]? = some none) : (tz_fs ad f rs).set j (.int v) = tz_fs ad (fun b => if b = j then v else f b) rs := by
  have hj := (List.getElem?_eq_some_iff.mp h).1
  apply List.ext_getElem?
  intro i
  by_cases hi : i = j
  · subst hi
    rw [List.getElem?_set_self (by rw [tz_fs_len]; exact hj), tz_fs_int h]
    simp
  · rw [List.getElem?_set_ne (Ne.symm hi)]
    unfold tz_fs
    rw [List.getElem?_map, List.getElem?_map]
    by_cases hn : i < rs.length
    · rw [List.getElem?_range hn]
      simp only [Option.map_some, hi, if_false]
    · rw [List.getElem?_eq_none (by rw [List.length_range]; omega)]
      rfl
/-- what is one for all methods: the launch, the cells' addresses, the array kinds, the kinds' numbers, the cells that may be written -/
abbrev tzG : Type := Launch × (Nat → Nat) × (Nat → ClassId) × va_G × (Nat → Prop)
/-- the addresses are apart, and may be written -/
def tz_ok (G : tzG) : Prop := (∀ i j : Nat, i < tz_N → j < tz_N → G.2.1 i = G.2.1 j → i = j) ∧ ∀ k : Nat, k < tz_N → G.2.2.2.2 (G.2.1 k)
def tz_TB : List Cond := lw_tbl.filter goodWord
theorem tz_in {w : Cond} (i : Nat) (h : lw_tbl[i]? = some w) (hg : goodWord w = true) : w ∈ tz_TB := List.mem_filter.mpr ⟨List.mem_of_getElem? h, hg⟩
theorem tz_good {y : MethodName} {bytes : ByteArray} {maxL : Nat} {ret : Option FieldType} (h : Cond.code y bytes maxL ret ∈ tz_TB) : GoodIn tz_TB (Cond.code y bytes maxL ret :: tz_TB) := by
  intro w hw
  rcases List.mem_cons.mp hw with rfl | hw
  · exact ⟨h, good_of_word (List.mem_filter.mp h).2⟩
  · exact ⟨hw, good_of_word (List.mem_filter.mp hw).2⟩
def tz_nest1 : Cond := .methodLinkNest RX6 60 yX9_isLetter "TopicSeams"
def tz_nest2 : Cond := .methodLinkNest RX3 55 yX9_isLetter "TopicSeams"
def tz_least (j : Nat) : Int32 := ([0, 0, 1, 1] : List Int32).getD j 0
def tz_most (j : Nat) : Int32 := ([3, 40, 4, 4] : List Int32).getD j 0
/-- what a state says of the tables and of what nobody writes -/
def tz_K (G : tzG) (U : State) : Prop := va_K G.2.2.2.1 vwCl (tz_ty G.2.2.1) U ∧ va_Nw tz_nest1 U ∧ va_Nw tz_nest2 U ∧
  va_Z "TopicSeams" "LEAST" "[I" (.ref (G.2.1 1000)) G.2.2.2.2 U U.heap ∧ va_T .int (G.2.1 1000) 4 (fun j => .int (tz_least j)) G.2.2.2.2 U U.heap ∧
  va_Z "TopicSeams" "MOST" "[I" (.ref (G.2.1 1001)) G.2.2.2.2 U U.heap ∧ va_T .int (G.2.1 1001) 4 (fun j => .int (tz_most j)) G.2.2.2.2 U U.heap
theorem tz_K.warm {G : tzG} {s U : State} {H : Heap} {locs : List Loc} (h : tz_K G s) (hW : s.WarmedH U.vm) (hU : U.heap = H) (hS : va_S G.2.2.2.2 s.heap H locs) : tz_K G U := by
  obtain ⟨h1, h2, h3, h4, h5, h6, h7⟩ := h
  refine ⟨va_K.moved hW.alike h1, va_Nw.warmM hW h2, va_Nw.warmM hW h3, ?_, ?_, ?_, ?_⟩
  · rw [hU]; exact (h4.kept hS.2.1).moved hW.alike
  · rw [hU]; exact (h5.kept hS.2.1).moved hW.alike
  · rw [hU]; exact (h6.kept hS.2.1).moved hW.alike
  · rw [hU]; exact (h7.kept hS.2.1).moved hW.alike
def tz_Pc (G : tzG) (vs : List Value) (σ : tzS) : Array Value → State → Prop := fun v U => v = (vs.map (tz_x G.2.1)).toArray ∧ va_P G.2.2.2.1 vwCl (tz_w G.2.1 G.2.2.1 σ) U.heap ∧ tz_K G U
theorem tz_Pc.blind (G : tzG) (vs : List Value) (σ : tzS) : FrameBlind (tz_Pc G vs σ) := by
  intro a U g mk h
  obtain ⟨h0, hP, h1, h2, h3, h4, h5, h6, h7⟩ := h
  have ha : U.vm.Alike (U.calling g mk a).vm := Vm.Alike.refl U.vm
  exact ⟨h0, hP, va_K.moved ha h1, va_Nw.same rfl rfl h2, va_Nw.same rfl rfl h3, h4.moved ha, h5.moved ha, h6.moved ha, h7.moved ha⟩
def tz_B (G : tzG) (σ : tzS) (t : State) : Prop := va_P G.2.2.2.1 vwCl (tz_w G.2.1 G.2.2.1 σ) t.heap
abbrev tz_Qi (G : tzG) (Q : Int32 → tzS → Prop) : Array Value → State → Outcome → State → Prop := va_Qi Q (tz_B G) G.2.2.2.2
abbrev tz_Ql (G : tzG) (Q : Int64 → tzS → Prop) : Array Value → State → Outcome → State → Prop := va_Ql Q (tz_B G) G.2.2.2.2
abbrev tz_Qv (G : tzG) (Q : tzS → Prop) : Array Value → State → Outcome → State → Prop := va_Qv Q (tz_B G) G.2.2.2.2
/-- a method's contract -/
abbrev tz_M (G : tzG) (y : MethodName) (bytes : ByteArray) (maxL : Nat) (ret : Option FieldType) (fr lo : Nat) (vs : List Value) (σ : tzS) (Qc : Array Value → State → Outcome → State → Prop) : Prop :=
  Met G.1 y (Cond.code y bytes maxL ret :: tz_TB) { frames := fr, cells := 0, slots := 0, locals := lo } (tz_Pc G vs σ) Qc 0 0 G.2.2.2.2
/-- what is one for a method's walk -/
abbrev tzE : Type := (Program × Env × Room × State × MethodId × Array Value × List Frame × Method × Code) × (Nat × Nat × Nat × (State → Prop))
def tz_V (G : tzG) (E : tzE) (pc : Nat) (L : List (Nat × Value)) (st : List Value) (σ : tzS) : Prop :=
  match E with
  | ((p, e, R, s, m, args, below, meth, c), (nL, cells, slots, Q)) =>
    ∀ (H : Heap) (locs : List Loc) (ls : Array Slot), va_P G.2.2.2.1 vwCl (tz_w G.2.1 G.2.2.1 σ) H → va_S G.2.2.2.2 s.heap H locs → lv_has ls nL (L.map fun q => (q.1, tz_x G.2.1 q.2)) → W p G.1 e R s m args below meth c H locs cells slots Q (F0 m pc ls (st.map (tz_x G.2.1)))
def tz_C (G : tzG) (E : tzE) (cc : ByteArray) (own : String) (nL fr lo : Nat) : Prop :=
  match E with
  | ((p, e, R, s, m, args, below, meth, c), (nL0, cells, slots, Q)) =>
    (p.tables.exec = Jvm.exec ∧ c.code = cc ∧ c.maxLocals = nL ∧ s.vm.findClass own = some m.cls ∧ ∀ w ∈ tz_TB, w.before args s = true) ∧ nL0 = nL ∧ tz_K G s ∧ tz_ok G ∧ fr ≤ R.frames ∧ lo ≤ R.locals ∧ cells ≤ R.cells ∧ slots ≤ R.slots

theorem tz_at {ad : Nat → Nat} {ls : Array Slot} {nL : Nat} {L : List (Nat × Value)} (h : lv_has ls nL (L.map fun q => (q.1, tz_x ad q.2))) (k : Nat) {i : Nat} {v : Value} (hk : L[k]? = some (i, v)) : ls[i]? = some (.val (tz_x ad v)) := by
  refine lv_at h k ?_
  rw [List.getElem?_map, hk]
  rfl
theorem tz_flt (ad : Nat → Nat) (f : Nat → Nat → Bool) (L : List (Nat × Value)) : (L.map fun q => (q.1, tz_x ad q.2)).filter (fun q => f q.1 q.2.category) = (L.filter (fun q => f q.1 q.2.category)).map fun q => (q.1, tz_x ad q.2) := by
  rw [List.filter_map]
  congr 1
  apply List.filter_congr
  intro q _
  simp only [Function.comp, tz_x_cat]
theorem tz_D {G : tzG} (h : tz_ok G) (σ : tzS) : va_D G.2.2.2.2 (tz_w G.2.1 G.2.2.1 σ) := by
  have key : ∀ (i : Nat) (q : Nat × va_E), (tz_w G.2.1 G.2.2.1 σ)[i]? = some q → i < tz_N ∧ q.1 = G.2.1 i := by
    intro i q hq
    have hi : i < tz_N := by
      have := (List.getElem?_eq_some_iff.mp hq).1
      rw [tz_w_len] at this
      exact this
    rw [tz_w_at hi] at hq
    cases hq
    exact ⟨hi, rfl⟩
  refine ⟨fun i j p q hp hq e => ?_, fun k q hk => ?_⟩
  · obtain ⟨h1, e1⟩ := key i p hp
    obtain ⟨h2, e2⟩ := key j q hq
    exact h.1 i j h1 h2 (by rw [← e1, ← e2]; exact e)
  · obtain ⟨h1, e1⟩ := key k q hk
    rw [e1]
    exact h.2 k h1
section TZ
variable {G : tzG} {E : tzE} {cc : ByteArray} {own : String} {nL fr lo pc : Nat} {L : List (Nat × Value)} {st : List Value} {σ : tzS}
/-- fewer known locals -/
theorem tz_sub {L' : List (Nat × Value)} (k : tz_V G E pc L st σ) (ks : List Nat) (hl : lv_pick L' ks = L) : tz_V G E pc L' st σ := by
  obtain ⟨⟨p, e, R, s, m, args, below, meth, c⟩, ⟨nL, cells, slots, Q⟩⟩ := E
  intro H locs ls hP hS h
  refine k H locs ls hP hS (lv_sub h ks ?_)
  rw [← hl]
  unfold lv_pick
  rw [List.map_filterMap]
  congr 1
  funext i
  rw [List.getElem?_map]

theorem tz_iconst {n : Int} (v : Int32) (hv : Int32.ofInt n = v) (C : tz_C G E cc own nL fr lo) (d : decode cc pc = .ok (.iconst n, 1)) (k : tz_V G E (pc + 1) L (.int v :: st) σ) : tz_V G E pc L (st) σ := by
  obtain ⟨⟨p, e, R, s, m, args, below, meth, c⟩, ⟨nL0, cells, slots, Q⟩⟩ := E
  intro H locs ls hP hS h
  exact lv_iconst C.1.1 C.1.2.1 d hv (k H locs ls hP hS h)
theorem tz_bipush {n : Int} (v : Int32) (hv : (Int8.ofInt n).toInt32 = v) (C : tz_C G E cc own nL fr lo) (d : decode cc pc = .ok (.bipush n, 2)) (k : tz_V G E (pc + 2) L (.int v :: st) σ) : tz_V G E pc L (st) σ := by
  obtain ⟨⟨p, e, R, s, m, args, below, meth, c⟩, ⟨nL0, cells, slots, Q⟩⟩ := E
  intro H locs ls hP hS h
  exact lv_bipush C.1.1 C.1.2.1 d hv (k H locs ls hP hS h)
theorem tz_sipush {n : Int} (v : Int32) (hv : (Int16.ofInt n).toInt32 = v) (C : tz_C G E cc own nL fr lo) (d : decode cc pc = .ok (.sipush n, 3)) (k : tz_V G E (pc + 3) L (.int v :: st) σ) : tz_V G E pc L (st) σ := by
  obtain ⟨⟨p, e, R, s, m, args, below, meth, c⟩, ⟨nL0, cells, slots, Q⟩⟩ := E
  intro H locs ls hP hS h
  exact lv_sipush C.1.1 C.1.2.1 d hv (k H locs ls hP hS h)
theorem tz_lconst {n : Fin 2} (v : Int64) (hv : Int64.ofNat (n : Nat) = v) (C : tz_C G E cc own nL fr lo) (d : decode cc pc = .ok (.lconst n, 1)) (k : tz_V G E (pc + 1) L (.long v :: st) σ) : tz_V G E pc L (st) σ := by
  obtain ⟨⟨p, e, R, s, m, args, below, meth, c⟩, ⟨nL0, cells, slots, Q⟩⟩ := E
  intro H locs ls hP hS h
  exact lv_lconst C.1.1 C.1.2.1 d hv (k H locs ls hP hS h)
theorem tz_iadd {x y : Int32} (C : tz_C G E cc own nL fr lo) (d : decode cc pc = .ok (.iadd, 1)) (k : tz_V G E (pc + 1) L (.int (x + y) :: st) σ) : tz_V G E pc L (.int y :: .int x :: st) σ := by
  obtain ⟨⟨p, e, R, s, m, args, below, meth, c⟩, ⟨nL0, cells, slots, Q⟩⟩ := E
  intro H locs ls hP hS h
  exact lv_iadd C.1.1 C.1.2.1 d  (k H locs ls hP hS h)
theorem tz_isub {x y : Int32} (C : tz_C G E cc own nL fr lo) (d : decode cc pc = .ok (.isub, 1)) (k : tz_V G E (pc + 1) L (.int (x - y) :: st) σ) : tz_V G E pc L (.int y :: .int x :: st) σ := by
  obtain ⟨⟨p, e, R, s, m, args, below, meth, c⟩, ⟨nL0, cells, slots, Q⟩⟩ := E
  intro H locs ls hP hS h
  exact lv_isub C.1.1 C.1.2.1 d  (k H locs ls hP hS h)
theorem tz_imul {x y : Int32} (C : tz_C G E cc own nL fr lo) (d : decode cc pc = .ok (.imul, 1)) (k : tz_V G E (pc + 1) L (.int (x * y) :: st) σ) : tz_V G E pc L (.int y :: .int x :: st) σ := by
  obtain ⟨⟨p, e, R, s, m, args, below, meth, c⟩, ⟨nL0, cells, slots, Q⟩⟩ := E
  intro H locs ls hP hS h
  exact lv_imul C.1.1 C.1.2.1 d  (k H locs ls hP hS h)
theorem tz_iand {x y : Int32} (C : tz_C G E cc own nL fr lo) (d : decode cc pc = .ok (.iand, 1)) (k : tz_V G E (pc + 1) L (.int (x &&& y) :: st) σ) : tz_V G E pc L (.int y :: .int x :: st) σ := by
  obtain ⟨⟨p, e, R, s, m, args, below, meth, c⟩, ⟨nL0, cells, slots, Q⟩⟩ := E
  intro H locs ls hP hS h
  exact lv_iand C.1.1 C.1.2.1 d  (k H locs ls hP hS h)
theorem tz_ior {x y : Int32} (C : tz_C G E cc own nL fr lo) (d : decode cc pc = .ok (.ior, 1)) (k : tz_V G E (pc + 1) L (.int (x ||| y) :: st) σ) : tz_V G E pc L (.int y :: .int x :: st) σ := by
  obtain ⟨⟨p, e, R, s, m, args, below, meth, c⟩, ⟨nL0, cells, slots, Q⟩⟩ := E
  intro H locs ls hP hS h
  exact lv_ior C.1.1 C.1.2.1 d  (k H locs ls hP hS h)
theorem tz_ladd {x y : Int64} (C : tz_C G E cc own nL fr lo) (d : decode cc pc = .ok (.ladd, 1)) (k : tz_V G E (pc + 1) L (.long (x + y) :: st) σ) : tz_V G E pc L (.long y :: .long x :: st) σ := by
  obtain ⟨⟨p, e, R, s, m, args, below, meth, c⟩, ⟨nL0, cells, slots, Q⟩⟩ := E
  intro H locs ls hP hS h
  exact lv_ladd C.1.1 C.1.2.1 d  (k H locs ls hP hS h)
theorem tz_lmul {x y : Int64} (C : tz_C G E cc own nL fr lo) (d : decode cc pc = .ok (.lmul, 1)) (k : tz_V G E (pc + 1) L (.long (x * y) :: st) σ) : tz_V G E pc L (.long y :: .long x :: st) σ := by
  obtain ⟨⟨p, e, R, s, m, args, below, meth, c⟩, ⟨nL0, cells, slots, Q⟩⟩ := E
  intro H locs ls hP hS h
  exact lv_lmul C.1.1 C.1.2.1 d  (k H locs ls hP hS h)
theorem tz_land {x y : Int64} (C : tz_C G E cc own nL fr lo) (d : decode cc pc = .ok (.land, 1)) (k : tz_V G E (pc + 1) L (.long (x &&& y) :: st) σ) : tz_V G E pc L (.long y :: .long x :: st) σ := by
  obtain ⟨⟨p, e, R, s, m, args, below, meth, c⟩, ⟨nL0, cells, slots, Q⟩⟩ := E
  intro H locs ls hP hS h
  exact lv_land C.1.1 C.1.2.1 d  (k H locs ls hP hS h)
theorem tz_lor {x y : Int64} (C : tz_C G E cc own nL fr lo) (d : decode cc pc = .ok (.lor, 1)) (k : tz_V G E (pc + 1) L (.long (x ||| y) :: st) σ) : tz_V G E pc L (.long y :: .long x :: st) σ := by
  obtain ⟨⟨p, e, R, s, m, args, below, meth, c⟩, ⟨nL0, cells, slots, Q⟩⟩ := E
  intro H locs ls hP hS h
  exact lv_lor C.1.1 C.1.2.1 d  (k H locs ls hP hS h)
theorem tz_ishl {x y : Int32} (C : tz_C G E cc own nL fr lo) (d : decode cc pc = .ok (.ishl, 1)) (k : tz_V G E (pc + 1) L (.int (x <<< (y &&& 31)) :: st) σ) : tz_V G E pc L (.int y :: .int x :: st) σ := by
  obtain ⟨⟨p, e, R, s, m, args, below, meth, c⟩, ⟨nL0, cells, slots, Q⟩⟩ := E
  intro H locs ls hP hS h
  exact lv_ishl C.1.1 C.1.2.1 d  (k H locs ls hP hS h)
theorem tz_ishr {x y : Int32} (C : tz_C G E cc own nL fr lo) (d : decode cc pc = .ok (.ishr, 1)) (k : tz_V G E (pc + 1) L (.int (x >>> (y &&& 31)) :: st) σ) : tz_V G E pc L (.int y :: .int x :: st) σ := by
  obtain ⟨⟨p, e, R, s, m, args, below, meth, c⟩, ⟨nL0, cells, slots, Q⟩⟩ := E
  intro H locs ls hP hS h
  exact lv_ishr C.1.1 C.1.2.1 d  (k H locs ls hP hS h)
theorem tz_iushr {x y : Int32} (C : tz_C G E cc own nL fr lo) (d : decode cc pc = .ok (.iushr, 1)) (k : tz_V G E (pc + 1) L (.int (x.toUInt32 >>> (y.toUInt32 &&& Int32.toUInt32 31)).toInt32 :: st) σ) : tz_V G E pc L (.int y :: .int x :: st) σ := by
  obtain ⟨⟨p, e, R, s, m, args, below, meth, c⟩, ⟨nL0, cells, slots, Q⟩⟩ := E
  intro H locs ls hP hS h
  exact lv_iushr C.1.1 C.1.2.1 d rfl (k H locs ls hP hS h)
theorem tz_lshl {x : Int64} {y : Int32} (C : tz_C G E cc own nL fr lo) (d : decode cc pc = .ok (.lshl, 1)) (k : tz_V G E (pc + 1) L (.long (x <<< (y.toInt64 &&& 63)) :: st) σ) : tz_V G E pc L (.int y :: .long x :: st) σ := by
  obtain ⟨⟨p, e, R, s, m, args, below, meth, c⟩, ⟨nL0, cells, slots, Q⟩⟩ := E
  intro H locs ls hP hS h
  exact lv_lshl C.1.1 C.1.2.1 d rfl (k H locs ls hP hS h)
theorem tz_lshr {x : Int64} {y : Int32} (C : tz_C G E cc own nL fr lo) (d : decode cc pc = .ok (.lshr, 1)) (k : tz_V G E (pc + 1) L (.long (x >>> (y.toInt64 &&& 63)) :: st) σ) : tz_V G E pc L (.int y :: .long x :: st) σ := by
  obtain ⟨⟨p, e, R, s, m, args, below, meth, c⟩, ⟨nL0, cells, slots, Q⟩⟩ := E
  intro H locs ls hP hS h
  exact lv_lshr C.1.1 C.1.2.1 d rfl (k H locs ls hP hS h)
theorem tz_i2l {x : Int32} (C : tz_C G E cc own nL fr lo) (d : decode cc pc = .ok (.i2l, 1)) (k : tz_V G E (pc + 1) L (.long x.toInt64 :: st) σ) : tz_V G E pc L (.int x :: st) σ := by
  obtain ⟨⟨p, e, R, s, m, args, below, meth, c⟩, ⟨nL0, cells, slots, Q⟩⟩ := E
  intro H locs ls hP hS h
  exact lv_i2l C.1.1 C.1.2.1 d rfl (k H locs ls hP hS h)
theorem tz_l2i {x : Int64} (C : tz_C G E cc own nL fr lo) (d : decode cc pc = .ok (.l2i, 1)) (k : tz_V G E (pc + 1) L (.int x.toInt32 :: st) σ) : tz_V G E pc L (.long x :: st) σ := by
  obtain ⟨⟨p, e, R, s, m, args, below, meth, c⟩, ⟨nL0, cells, slots, Q⟩⟩ := E
  intro H locs ls hP hS h
  exact lv_l2i C.1.1 C.1.2.1 d rfl (k H locs ls hP hS h)
theorem tz_i2b {x : Int32} (C : tz_C G E cc own nL fr lo) (d : decode cc pc = .ok (.i2b, 1)) (k : tz_V G E (pc + 1) L (.int x.toInt8.toInt32 :: st) σ) : tz_V G E pc L (.int x :: st) σ := by
  obtain ⟨⟨p, e, R, s, m, args, below, meth, c⟩, ⟨nL0, cells, slots, Q⟩⟩ := E
  intro H locs ls hP hS h
  exact lv_i2b C.1.1 C.1.2.1 d rfl (k H locs ls hP hS h)
theorem tz_i2s {x : Int32} (C : tz_C G E cc own nL fr lo) (d : decode cc pc = .ok (.i2s, 1)) (k : tz_V G E (pc + 1) L (.int x.toInt16.toInt32 :: st) σ) : tz_V G E pc L (.int x :: st) σ := by
  obtain ⟨⟨p, e, R, s, m, args, below, meth, c⟩, ⟨nL0, cells, slots, Q⟩⟩ := E
  intro H locs ls hP hS h
  exact lv_i2s C.1.1 C.1.2.1 d rfl (k H locs ls hP hS h)
theorem tz_lcmp {x y : Int64} (C : tz_C G E cc own nL fr lo) (d : decode cc pc = .ok (.lcmp, 1)) (k : tz_V G E (pc + 1) L (.int (lg_cmp x y) :: st) σ) : tz_V G E pc L (.long y :: .long x :: st) σ := by
  obtain ⟨⟨p, e, R, s, m, args, below, meth, c⟩, ⟨nL0, cells, slots, Q⟩⟩ := E
  intro H locs ls hP hS h
  exact W.lcmp C.1.1 C.1.2.1 d (k H locs ls hP hS h)
theorem tz_dup {v : Value} (C : tz_C G E cc own nL fr lo) (d : decode cc pc = .ok (.dup, 1)) (hv : v.category = 1) (k : tz_V G E (pc + 1) L (v :: v :: st) σ) : tz_V G E pc L (v :: st) σ := by
  obtain ⟨⟨p, e, R, s, m, args, below, meth, c⟩, ⟨nL0, cells, slots, Q⟩⟩ := E
  intro H locs ls hP hS h
  exact lv_dup C.1.1 C.1.2.1 d (by rw [tz_x_cat]; exact hv) (k H locs ls hP hS h)
theorem tz_dup2 {v u : Value} (C : tz_C G E cc own nL fr lo) (d : decode cc pc = .ok (.dup2, 1)) (hv : v.category = 1) (hu : u.category = 1) (k : tz_V G E (pc + 1) L (v :: u :: v :: u :: st) σ) : tz_V G E pc L (v :: u :: st) σ := by
  obtain ⟨⟨p, e, R, s, m, args, below, meth, c⟩, ⟨nL0, cells, slots, Q⟩⟩ := E
  intro H locs ls hP hS h
  exact lv_dup2_11 C.1.1 C.1.2.1 d (by rw [tz_x_cat]; exact hv) (by rw [tz_x_cat]; exact hu) (k H locs ls hP hS h)
theorem tz_goto {off : Int} (tgt : Nat) (C : tz_C G E cc own nL fr lo) (d : decode cc pc = .ok (.goto off, 3)) (ht : (pc : Int) + off = (tgt : Int)) (k : tz_V G E tgt L st σ) : tz_V G E pc L st σ := by
  obtain ⟨⟨p, e, R, s, m, args, below, meth, c⟩, ⟨nL0, cells, slots, Q⟩⟩ := E
  intro H locs ls hP hS h
  exact lv_goto C.1.1 C.1.2.1 d ht (k H locs ls hP hS h)
theorem tz_iload_n {i : Fin 4} {x : Int32} (j : Nat) (k : Nat) (C : tz_C G E cc own nL fr lo) (d : decode cc pc = .ok (.iload_n i, 1)) (hi : (i : Nat) = j) (hk : L[k]? = some (j, .int x)) (kk : tz_V G E (pc + 1) L (.int x :: st) σ) : tz_V G E pc L st σ := by
  obtain ⟨⟨p, e, R, s, m, args, below, meth, c⟩, ⟨nL0, cells, slots, Q⟩⟩ := E
  intro H locs ls hP hS h
  exact lv_iload_n C.1.1 C.1.2.1 d hi (tz_at h k hk) (kk H locs ls hP hS h)
theorem tz_iload {x : Int32} {j : Nat} (k : Nat) (C : tz_C G E cc own nL fr lo) (d : decode cc pc = .ok (.iload j, 2)) (hk : L[k]? = some (j, .int x)) (kk : tz_V G E (pc + 2) L (.int x :: st) σ) : tz_V G E pc L st σ := by
  obtain ⟨⟨p, e, R, s, m, args, below, meth, c⟩, ⟨nL0, cells, slots, Q⟩⟩ := E
  intro H locs ls hP hS h
  exact lv_iload C.1.1 C.1.2.1 d (tz_at h k hk) (kk H locs ls hP hS h)
theorem tz_lload_n {i : Fin 4} {x : Int64} (j : Nat) (k : Nat) (C : tz_C G E cc own nL fr lo) (d : decode cc pc = .ok (.lload_n i, 1)) (hi : (i : Nat) = j) (hk : L[k]? = some (j, .long x)) (kk : tz_V G E (pc + 1) L (.long x :: st) σ) : tz_V G E pc L st σ := by
  obtain ⟨⟨p, e, R, s, m, args, below, meth, c⟩, ⟨nL0, cells, slots, Q⟩⟩ := E
  intro H locs ls hP hS h
  exact lv_lload_n C.1.1 C.1.2.1 d hi (tz_at h k hk) (kk H locs ls hP hS h)
theorem tz_lload {x : Int64} {j : Nat} (k : Nat) (C : tz_C G E cc own nL fr lo) (d : decode cc pc = .ok (.lload j, 2)) (hk : L[k]? = some (j, .long x)) (kk : tz_V G E (pc + 2) L (.long x :: st) σ) : tz_V G E pc L st σ := by
  obtain ⟨⟨p, e, R, s, m, args, below, meth, c⟩, ⟨nL0, cells, slots, Q⟩⟩ := E
  intro H locs ls hP hS h
  exact lv_lload C.1.1 C.1.2.1 d (tz_at h k hk) (kk H locs ls hP hS h)
theorem tz_aload_n {i : Fin 4} {r : Nat} (j : Nat) (k : Nat) (C : tz_C G E cc own nL fr lo) (d : decode cc pc = .ok (.aload_n i, 1)) (hi : (i : Nat) = j) (hk : L[k]? = some (j, .ref r)) (kk : tz_V G E (pc + 1) L (.ref r :: st) σ) : tz_V G E pc L st σ := by
  obtain ⟨⟨p, e, R, s, m, args, below, meth, c⟩, ⟨nL0, cells, slots, Q⟩⟩ := E
  intro H locs ls hP hS h
  exact lv_aload_n C.1.1 C.1.2.1 d hi (tz_at h k hk) (kk H locs ls hP hS h)
theorem tz_istore_n {i : Fin 4} (j : Nat) {x : Int32} {P : Int32 → Prop} (L0 : List (Nat × Value)) (C : tz_C G E cc own nL fr lo) (d : decode cc pc = .ok (.istore_n i, 1)) (hi : (i : Nat) = j) (hn : j < nL) (hl : L.filter (fun q => !(q.1 == j) && !(q.1 + 1 == j && q.2.category == 2)) = L0) (hp : ∀ y, y = x → P y) (kk : ∀ x : Int32, P x → tz_V G E (pc + 1) ((j, .int x) :: L0) st σ) : tz_V G E pc L (.int x :: st) σ := by
  obtain ⟨⟨p, e, R, s, m, args, below, meth, c⟩, ⟨nL0, cells, slots, Q⟩⟩ := E
  obtain rfl : nL0 = nL := C.2.1
  intro H locs ls hP hS h
  refine lv_istore_n (lv' := ((j, .int x) :: L0).map fun q => (q.1, tz_x G.2.1 q.2)) C.1.1 C.1.2.1 d hi h hn ?_ (fun ls' h' => kk x (hp x rfl) H locs ls' hP hS h')
  rw [← hl]
  exact congrArg (List.cons _) (tz_flt G.2.1 (fun (a b : Nat) => !(a == j) && !(a + 1 == j && b == 2)) L)
theorem tz_istore {j : Nat} {x : Int32} {P : Int32 → Prop} (L0 : List (Nat × Value)) (C : tz_C G E cc own nL fr lo) (d : decode cc pc = .ok (.istore j, 2))  (hn : j < nL) (hl : L.filter (fun q => !(q.1 == j) && !(q.1 + 1 == j && q.2.category == 2)) = L0) (hp : ∀ y, y = x → P y) (kk : ∀ x : Int32, P x → tz_V G E (pc + 2) ((j, .int x) :: L0) st σ) : tz_V G E pc L (.int x :: st) σ := by
  obtain ⟨⟨p, e, R, s, m, args, below, meth, c⟩, ⟨nL0, cells, slots, Q⟩⟩ := E
  obtain rfl : nL0 = nL := C.2.1
  intro H locs ls hP hS h
  refine lv_istore (lv' := ((j, .int x) :: L0).map fun q => (q.1, tz_x G.2.1 q.2)) C.1.1 C.1.2.1 d  h hn ?_ (fun ls' h' => kk x (hp x rfl) H locs ls' hP hS h')
  rw [← hl]
  exact congrArg (List.cons _) (tz_flt G.2.1 (fun (a b : Nat) => !(a == j) && !(a + 1 == j && b == 2)) L)
theorem tz_lstore_n {i : Fin 4} (j : Nat) {x : Int64} {P : Int64 → Prop} (L0 : List (Nat × Value)) (C : tz_C G E cc own nL fr lo) (d : decode cc pc = .ok (.lstore_n i, 1)) (hi : (i : Nat) = j) (hn : j + 1 < nL) (hl : L.filter (fun q => !(q.1 == j) && (!(q.1 == j + 1) && !(q.1 + 1 == j && q.2.category == 2))) = L0) (hp : ∀ y, y = x → P y) (kk : ∀ x : Int64, P x → tz_V G E (pc + 1) ((j, .long x) :: L0) st σ) : tz_V G E pc L (.long x :: st) σ := by
  obtain ⟨⟨p, e, R, s, m, args, below, meth, c⟩, ⟨nL0, cells, slots, Q⟩⟩ := E
  obtain rfl : nL0 = nL := C.2.1
  intro H locs ls hP hS h
  refine lv_lstore_n (lv' := ((j, .long x) :: L0).map fun q => (q.1, tz_x G.2.1 q.2)) C.1.1 C.1.2.1 d hi h hn ?_ (fun ls' h' => kk x (hp x rfl) H locs ls' hP hS h')
  rw [← hl]
  exact congrArg (List.cons _) (tz_flt G.2.1 (fun (a b : Nat) => !(a == j) && (!(a == j + 1) && !(a + 1 == j && b == 2))) L)
theorem tz_lstore {j : Nat} {x : Int64} {P : Int64 → Prop} (L0 : List (Nat × Value)) (C : tz_C G E cc own nL fr lo) (d : decode cc pc = .ok (.lstore j, 2))  (hn : j + 1 < nL) (hl : L.filter (fun q => !(q.1 == j) && (!(q.1 == j + 1) && !(q.1 + 1 == j && q.2.category == 2))) = L0) (hp : ∀ y, y = x → P y) (kk : ∀ x : Int64, P x → tz_V G E (pc + 2) ((j, .long x) :: L0) st σ) : tz_V G E pc L (.long x :: st) σ := by
  obtain ⟨⟨p, e, R, s, m, args, below, meth, c⟩, ⟨nL0, cells, slots, Q⟩⟩ := E
  obtain rfl : nL0 = nL := C.2.1
  intro H locs ls hP hS h
  refine lv_lstore (lv' := ((j, .long x) :: L0).map fun q => (q.1, tz_x G.2.1 q.2)) C.1.1 C.1.2.1 d  h hn ?_ (fun ls' h' => kk x (hp x rfl) H locs ls' hP hS h')
  rw [← hl]
  exact congrArg (List.cons _) (tz_flt G.2.1 (fun (a b : Nat) => !(a == j) && (!(a == j + 1) && !(a + 1 == j && b == 2))) L)
theorem tz_iinc {j : Nat} {n : Int} {x : Int32} {P : Int32 → Prop} (k : Nat) (L0 : List (Nat × Value)) (v : Int32) (C : tz_C G E cc own nL fr lo) (d : decode cc pc = .ok (.iinc j n, 3)) (hv : Int32.ofInt n = v) (hk : L[k]? = some (j, .int x)) (hn : j < nL) (hl : L.filter (fun q => !(q.1 == j) && !(q.1 + 1 == j && q.2.category == 2)) = L0) (hp : ∀ y, y = x + v → P y) (kk : ∀ x : Int32, P x → tz_V G E (pc + 3) ((j, .int x) :: L0) st σ) : tz_V G E pc L st σ := by
  obtain ⟨⟨p, e, R, s, m, args, below, meth, c⟩, ⟨nL0, cells, slots, Q⟩⟩ := E
  obtain rfl : nL0 = nL := C.2.1
  intro H locs ls hP hS h
  refine lv_iinc (v := x + v) (lv' := ((j, .int (x + v)) :: L0).map fun q => (q.1, tz_x G.2.1 q.2)) C.1.1 C.1.2.1 d h (k := k) (x := x) (by rw [List.getElem?_map, hk]; rfl) (by rw [hv]) hn ?_ (fun ls' h' => kk (x + v) (hp _ rfl) H locs ls' hP hS h')
  rw [← hl]
  exact congrArg (List.cons _) (tz_flt G.2.1 (fun (a b : Nat) => !(a == j) && !(a + 1 == j && b == 2)) L)
theorem tz_if_eq {x : Int32} {off : Int} (tgt : Nat) {P N : Prop} (C : tz_C G E cc own nL fr lo) (d : decode cc pc = .ok (.ifCond .eq off, 3)) (ht : (pc : Int) + off = (tgt : Int)) (hp : (x = 0 → P) ∧ (¬ x = 0 → N)) (kt : P → tz_V G E tgt L st σ) (kf : N → tz_V G E (pc + 3) L st σ) : tz_V G E pc L (.int x :: st) σ := by
  obtain ⟨⟨p, e, R, s, m, args, below, meth, c⟩, ⟨nL0, cells, slots, Q⟩⟩ := E
  intro H locs ls hP hS h
  exact lv_if_eq C.1.1 C.1.2.1 d ht (fun q => kt (hp.1 q) H locs ls hP hS h) (fun q => kf (hp.2 q) H locs ls hP hS h)
theorem tz_if_eq_t {x : Int32} {off : Int} (tgt : Nat) (C : tz_C G E cc own nL fr lo) (d : decode cc pc = .ok (.ifCond .eq off, 3)) (ht : (pc : Int) + off = (tgt : Int)) (hc : x = 0) (kt : tz_V G E tgt L st σ) : tz_V G E pc L (.int x :: st) σ := tz_if_eq tgt C d ht (P := True) (N := False) ⟨fun _ => trivial, fun q => absurd hc (by first | exact q | exact fun z => z q)⟩ (fun _ => kt) (fun q => q.elim)
theorem tz_if_eq_f {x : Int32} {off : Int} (tgt : Nat) (C : tz_C G E cc own nL fr lo) (d : decode cc pc = .ok (.ifCond .eq off, 3)) (ht : (pc : Int) + off = (tgt : Int)) (hc : ¬ x = 0) (kf : tz_V G E (pc + 3) L st σ) : tz_V G E pc L (.int x :: st) σ := tz_if_eq tgt C d ht (P := False) (N := True) ⟨fun q => absurd q (by first | exact hc | exact fun z => z hc), fun _ => trivial⟩ (fun q => q.elim) (fun _ => kf)
theorem tz_if_ne {x : Int32} {off : Int} (tgt : Nat) {P N : Prop} (C : tz_C G E cc own nL fr lo) (d : decode cc pc = .ok (.ifCond .ne off, 3)) (ht : (pc : Int) + off = (tgt : Int)) (hp : (¬ x = 0 → P) ∧ (x = 0 → N)) (kt : P → tz_V G E tgt L st σ) (kf : N → tz_V G E (pc + 3) L st σ) : tz_V G E pc L (.int x :: st) σ := by
  obtain ⟨⟨p, e, R, s, m, args, below, meth, c⟩, ⟨nL0, cells, slots, Q⟩⟩ := E
  intro H locs ls hP hS h
  exact lv_if_ne C.1.1 C.1.2.1 d ht (fun q => kt (hp.1 q) H locs ls hP hS h) (fun q => kf (hp.2 q) H locs ls hP hS h)
theorem tz_if_ne_t {x : Int32} {off : Int} (tgt : Nat) (C : tz_C G E cc own nL fr lo) (d : decode cc pc = .ok (.ifCond .ne off, 3)) (ht : (pc : Int) + off = (tgt : Int)) (hc : ¬ x = 0) (kt : tz_V G E tgt L st σ) : tz_V G E pc L (.int x :: st) σ := tz_if_ne tgt C d ht (P := True) (N := False) ⟨fun _ => trivial, fun q => absurd hc (by first | exact q | exact fun z => z q)⟩ (fun _ => kt) (fun q => q.elim)
theorem tz_if_ne_f {x : Int32} {off : Int} (tgt : Nat) (C : tz_C G E cc own nL fr lo) (d : decode cc pc = .ok (.ifCond .ne off, 3)) (ht : (pc : Int) + off = (tgt : Int)) (hc : x = 0) (kf : tz_V G E (pc + 3) L st σ) : tz_V G E pc L (.int x :: st) σ := tz_if_ne tgt C d ht (P := False) (N := True) ⟨fun q => absurd q (by first | exact hc | exact fun z => z hc), fun _ => trivial⟩ (fun q => q.elim) (fun _ => kf)
theorem tz_if_lt {x : Int32} {off : Int} (tgt : Nat) {P N : Prop} (C : tz_C G E cc own nL fr lo) (d : decode cc pc = .ok (.ifCond .lt off, 3)) (ht : (pc : Int) + off = (tgt : Int)) (hp : (x < 0 → P) ∧ (¬ x < 0 → N)) (kt : P → tz_V G E tgt L st σ) (kf : N → tz_V G E (pc + 3) L st σ) : tz_V G E pc L (.int x :: st) σ := by
  obtain ⟨⟨p, e, R, s, m, args, below, meth, c⟩, ⟨nL0, cells, slots, Q⟩⟩ := E
  intro H locs ls hP hS h
  exact lv_if_lt C.1.1 C.1.2.1 d ht (fun q => kt (hp.1 q) H locs ls hP hS h) (fun q => kf (hp.2 q) H locs ls hP hS h)
theorem tz_if_lt_t {x : Int32} {off : Int} (tgt : Nat) (C : tz_C G E cc own nL fr lo) (d : decode cc pc = .ok (.ifCond .lt off, 3)) (ht : (pc : Int) + off = (tgt : Int)) (hc : x < 0) (kt : tz_V G E tgt L st σ) : tz_V G E pc L (.int x :: st) σ := tz_if_lt tgt C d ht (P := True) (N := False) ⟨fun _ => trivial, fun q => absurd hc (by first | exact q | exact fun z => z q)⟩ (fun _ => kt) (fun q => q.elim)
theorem tz_if_lt_f {x : Int32} {off : Int} (tgt : Nat) (C : tz_C G E cc own nL fr lo) (d : decode cc pc = .ok (.ifCond .lt off, 3)) (ht : (pc : Int) + off = (tgt : Int)) (hc : ¬ x < 0) (kf : tz_V G E (pc + 3) L st σ) : tz_V G E pc L (.int x :: st) σ := tz_if_lt tgt C d ht (P := False) (N := True) ⟨fun q => absurd q (by first | exact hc | exact fun z => z hc), fun _ => trivial⟩ (fun q => q.elim) (fun _ => kf)
theorem tz_if_ge {x : Int32} {off : Int} (tgt : Nat) {P N : Prop} (C : tz_C G E cc own nL fr lo) (d : decode cc pc = .ok (.ifCond .ge off, 3)) (ht : (pc : Int) + off = (tgt : Int)) (hp : (0 ≤ x → P) ∧ (¬ 0 ≤ x → N)) (kt : P → tz_V G E tgt L st σ) (kf : N → tz_V G E (pc + 3) L st σ) : tz_V G E pc L (.int x :: st) σ := by
  obtain ⟨⟨p, e, R, s, m, args, below, meth, c⟩, ⟨nL0, cells, slots, Q⟩⟩ := E
  intro H locs ls hP hS h
  exact lv_if_ge C.1.1 C.1.2.1 d ht (fun q => kt (hp.1 q) H locs ls hP hS h) (fun q => kf (hp.2 q) H locs ls hP hS h)
theorem tz_if_ge_t {x : Int32} {off : Int} (tgt : Nat) (C : tz_C G E cc own nL fr lo) (d : decode cc pc = .ok (.ifCond .ge off, 3)) (ht : (pc : Int) + off = (tgt : Int)) (hc : 0 ≤ x) (kt : tz_V G E tgt L st σ) : tz_V G E pc L (.int x :: st) σ := tz_if_ge tgt C d ht (P := True) (N := False) ⟨fun _ => trivial, fun q => absurd hc (by first | exact q | exact fun z => z q)⟩ (fun _ => kt) (fun q => q.elim)
theorem tz_if_ge_f {x : Int32} {off : Int} (tgt : Nat) (C : tz_C G E cc own nL fr lo) (d : decode cc pc = .ok (.ifCond .ge off, 3)) (ht : (pc : Int) + off = (tgt : Int)) (hc : ¬ 0 ≤ x) (kf : tz_V G E (pc + 3) L st σ) : tz_V G E pc L (.int x :: st) σ := tz_if_ge tgt C d ht (P := False) (N := True) ⟨fun q => absurd q (by first | exact hc | exact fun z => z hc), fun _ => trivial⟩ (fun q => q.elim) (fun _ => kf)
theorem tz_if_gt {x : Int32} {off : Int} (tgt : Nat) {P N : Prop} (C : tz_C G E cc own nL fr lo) (d : decode cc pc = .ok (.ifCond .gt off, 3)) (ht : (pc : Int) + off = (tgt : Int)) (hp : (0 < x → P) ∧ (¬ 0 < x → N)) (kt : P → tz_V G E tgt L st σ) (kf : N → tz_V G E (pc + 3) L st σ) : tz_V G E pc L (.int x :: st) σ := by
  obtain ⟨⟨p, e, R, s, m, args, below, meth, c⟩, ⟨nL0, cells, slots, Q⟩⟩ := E
  intro H locs ls hP hS h
  exact lv_if_gt C.1.1 C.1.2.1 d ht (fun q => kt (hp.1 q) H locs ls hP hS h) (fun q => kf (hp.2 q) H locs ls hP hS h)
theorem tz_if_gt_t {x : Int32} {off : Int} (tgt : Nat) (C : tz_C G E cc own nL fr lo) (d : decode cc pc = .ok (.ifCond .gt off, 3)) (ht : (pc : Int) + off = (tgt : Int)) (hc : 0 < x) (kt : tz_V G E tgt L st σ) : tz_V G E pc L (.int x :: st) σ := tz_if_gt tgt C d ht (P := True) (N := False) ⟨fun _ => trivial, fun q => absurd hc (by first | exact q | exact fun z => z q)⟩ (fun _ => kt) (fun q => q.elim)
theorem tz_if_gt_f {x : Int32} {off : Int} (tgt : Nat) (C : tz_C G E cc own nL fr lo) (d : decode cc pc = .ok (.ifCond .gt off, 3)) (ht : (pc : Int) + off = (tgt : Int)) (hc : ¬ 0 < x) (kf : tz_V G E (pc + 3) L st σ) : tz_V G E pc L (.int x :: st) σ := tz_if_gt tgt C d ht (P := False) (N := True) ⟨fun q => absurd q (by first | exact hc | exact fun z => z hc), fun _ => trivial⟩ (fun q => q.elim) (fun _ => kf)
theorem tz_if_le {x : Int32} {off : Int} (tgt : Nat) {P N : Prop} (C : tz_C G E cc own nL fr lo) (d : decode cc pc = .ok (.ifCond .le off, 3)) (ht : (pc : Int) + off = (tgt : Int)) (hp : (x ≤ 0 → P) ∧ (¬ x ≤ 0 → N)) (kt : P → tz_V G E tgt L st σ) (kf : N → tz_V G E (pc + 3) L st σ) : tz_V G E pc L (.int x :: st) σ := by
  obtain ⟨⟨p, e, R, s, m, args, below, meth, c⟩, ⟨nL0, cells, slots, Q⟩⟩ := E
  intro H locs ls hP hS h
  exact lv_if_le C.1.1 C.1.2.1 d ht (fun q => kt (hp.1 q) H locs ls hP hS h) (fun q => kf (hp.2 q) H locs ls hP hS h)
theorem tz_if_le_t {x : Int32} {off : Int} (tgt : Nat) (C : tz_C G E cc own nL fr lo) (d : decode cc pc = .ok (.ifCond .le off, 3)) (ht : (pc : Int) + off = (tgt : Int)) (hc : x ≤ 0) (kt : tz_V G E tgt L st σ) : tz_V G E pc L (.int x :: st) σ := tz_if_le tgt C d ht (P := True) (N := False) ⟨fun _ => trivial, fun q => absurd hc (by first | exact q | exact fun z => z q)⟩ (fun _ => kt) (fun q => q.elim)
theorem tz_if_le_f {x : Int32} {off : Int} (tgt : Nat) (C : tz_C G E cc own nL fr lo) (d : decode cc pc = .ok (.ifCond .le off, 3)) (ht : (pc : Int) + off = (tgt : Int)) (hc : ¬ x ≤ 0) (kf : tz_V G E (pc + 3) L st σ) : tz_V G E pc L (.int x :: st) σ := tz_if_le tgt C d ht (P := False) (N := True) ⟨fun q => absurd q (by first | exact hc | exact fun z => z hc), fun _ => trivial⟩ (fun q => q.elim) (fun _ => kf)
theorem tz_icmp_eq {x y : Int32} {off : Int} (tgt : Nat) {P N : Prop} (C : tz_C G E cc own nL fr lo) (d : decode cc pc = .ok (.if_icmp .eq off, 3)) (ht : (pc : Int) + off = (tgt : Int)) (hp : (x = y → P) ∧ (¬ x = y → N)) (kt : P → tz_V G E tgt L st σ) (kf : N → tz_V G E (pc + 3) L st σ) : tz_V G E pc L (.int y :: .int x :: st) σ := by
  obtain ⟨⟨p, e, R, s, m, args, below, meth, c⟩, ⟨nL0, cells, slots, Q⟩⟩ := E
  intro H locs ls hP hS h
  exact lv_icmp_eq C.1.1 C.1.2.1 d ht (fun q => kt (hp.1 q) H locs ls hP hS h) (fun q => kf (hp.2 q) H locs ls hP hS h)
theorem tz_icmp_eq_t {x y : Int32} {off : Int} (tgt : Nat) (C : tz_C G E cc own nL fr lo) (d : decode cc pc = .ok (.if_icmp .eq off, 3)) (ht : (pc : Int) + off = (tgt : Int)) (hc : x = y) (kt : tz_V G E tgt L st σ) : tz_V G E pc L (.int y :: .int x :: st) σ := tz_icmp_eq tgt C d ht (P := True) (N := False) ⟨fun _ => trivial, fun q => absurd hc (by first | exact q | exact fun z => z q)⟩ (fun _ => kt) (fun q => q.elim)
theorem tz_icmp_eq_f {x y : Int32} {off : Int} (tgt : Nat) (C : tz_C G E cc own nL fr lo) (d : decode cc pc = .ok (.if_icmp .eq off, 3)) (ht : (pc : Int) + off = (tgt : Int)) (hc : ¬ x = y) (kf : tz_V G E (pc + 3) L st σ) : tz_V G E pc L (.int y :: .int x :: st) σ := tz_icmp_eq tgt C d ht (P := False) (N := True) ⟨fun q => absurd q (by first | exact hc | exact fun z => z hc), fun _ => trivial⟩ (fun q => q.elim) (fun _ => kf)
theorem tz_icmp_ne {x y : Int32} {off : Int} (tgt : Nat) {P N : Prop} (C : tz_C G E cc own nL fr lo) (d : decode cc pc = .ok (.if_icmp .ne off, 3)) (ht : (pc : Int) + off = (tgt : Int)) (hp : (¬ x = y → P) ∧ (x = y → N)) (kt : P → tz_V G E tgt L st σ) (kf : N → tz_V G E (pc + 3) L st σ) : tz_V G E pc L (.int y :: .int x :: st) σ := by
  obtain ⟨⟨p, e, R, s, m, args, below, meth, c⟩, ⟨nL0, cells, slots, Q⟩⟩ := E
  intro H locs ls hP hS h
  exact lv_icmp_ne C.1.1 C.1.2.1 d ht (fun q => kt (hp.1 q) H locs ls hP hS h) (fun q => kf (hp.2 q) H locs ls hP hS h)
theorem tz_icmp_ne_t {x y : Int32} {off : Int} (tgt : Nat) (C : tz_C G E cc own nL fr lo) (d : decode cc pc = .ok (.if_icmp .ne off, 3)) (ht : (pc : Int) + off = (tgt : Int)) (hc : ¬ x = y) (kt : tz_V G E tgt L st σ) : tz_V G E pc L (.int y :: .int x :: st) σ := tz_icmp_ne tgt C d ht (P := True) (N := False) ⟨fun _ => trivial, fun q => absurd hc (by first | exact q | exact fun z => z q)⟩ (fun _ => kt) (fun q => q.elim)
theorem tz_icmp_ne_f {x y : Int32} {off : Int} (tgt : Nat) (C : tz_C G E cc own nL fr lo) (d : decode cc pc = .ok (.if_icmp .ne off, 3)) (ht : (pc : Int) + off = (tgt : Int)) (hc : x = y) (kf : tz_V G E (pc + 3) L st σ) : tz_V G E pc L (.int y :: .int x :: st) σ := tz_icmp_ne tgt C d ht (P := False) (N := True) ⟨fun q => absurd q (by first | exact hc | exact fun z => z hc), fun _ => trivial⟩ (fun q => q.elim) (fun _ => kf)
theorem tz_icmp_lt {x y : Int32} {off : Int} (tgt : Nat) {P N : Prop} (C : tz_C G E cc own nL fr lo) (d : decode cc pc = .ok (.if_icmp .lt off, 3)) (ht : (pc : Int) + off = (tgt : Int)) (hp : (x < y → P) ∧ (¬ x < y → N)) (kt : P → tz_V G E tgt L st σ) (kf : N → tz_V G E (pc + 3) L st σ) : tz_V G E pc L (.int y :: .int x :: st) σ := by
  obtain ⟨⟨p, e, R, s, m, args, below, meth, c⟩, ⟨nL0, cells, slots, Q⟩⟩ := E
  intro H locs ls hP hS h
  exact lv_icmp_lt C.1.1 C.1.2.1 d ht (fun q => kt (hp.1 q) H locs ls hP hS h) (fun q => kf (hp.2 q) H locs ls hP hS h)
theorem tz_icmp_lt_t {x y : Int32} {off : Int} (tgt : Nat) (C : tz_C G E cc own nL fr lo) (d : decode cc pc = .ok (.if_icmp .lt off, 3)) (ht : (pc : Int) + off = (tgt : Int)) (hc : x < y) (kt : tz_V G E tgt L st σ) : tz_V G E pc L (.int y :: .int x :: st) σ := tz_icmp_lt tgt C d ht (P := True) (N := False) ⟨fun _ => trivial, fun q => absurd hc (by first | exact q | exact fun z => z q)⟩ (fun _ => kt) (fun q => q.elim)
theorem tz_icmp_lt_f {x y : Int32} {off : Int} (tgt : Nat) (C : tz_C G E cc own nL fr lo) (d : decode cc pc = .ok (.if_icmp .lt off, 3)) (ht : (pc : Int) + off = (tgt : Int)) (hc : ¬ x < y) (kf : tz_V G E (pc + 3) L st σ) : tz_V G E pc L (.int y :: .int x :: st) σ := tz_icmp_lt tgt C d ht (P := False) (N := True) ⟨fun q => absurd q (by first | exact hc | exact fun z => z hc), fun _ => trivial⟩ (fun q => q.elim) (fun _ => kf)
theorem tz_icmp_ge {x y : Int32} {off : Int} (tgt : Nat) {P N : Prop} (C : tz_C G E cc own nL fr lo) (d : decode cc pc = .ok (.if_icmp .ge off, 3)) (ht : (pc : Int) + off = (tgt : Int)) (hp : (y ≤ x → P) ∧ (¬ y ≤ x → N)) (kt : P → tz_V G E tgt L st σ) (kf : N → tz_V G E (pc + 3) L st σ) : tz_V G E pc L (.int y :: .int x :: st) σ := by
  obtain ⟨⟨p, e, R, s, m, args, below, meth, c⟩, ⟨nL0, cells, slots, Q⟩⟩ := E
  intro H locs ls hP hS h
  exact lv_icmp_ge C.1.1 C.1.2.1 d ht (fun q => kt (hp.1 q) H locs ls hP hS h) (fun q => kf (hp.2 q) H locs ls hP hS h)
theorem tz_icmp_ge_t {x y : Int32} {off : Int} (tgt : Nat) (C : tz_C G E cc own nL fr lo) (d : decode cc pc = .ok (.if_icmp .ge off, 3)) (ht : (pc : Int) + off = (tgt : Int)) (hc : y ≤ x) (kt : tz_V G E tgt L st σ) : tz_V G E pc L (.int y :: .int x :: st) σ := tz_icmp_ge tgt C d ht (P := True) (N := False) ⟨fun _ => trivial, fun q => absurd hc (by first | exact q | exact fun z => z q)⟩ (fun _ => kt) (fun q => q.elim)
theorem tz_icmp_ge_f {x y : Int32} {off : Int} (tgt : Nat) (C : tz_C G E cc own nL fr lo) (d : decode cc pc = .ok (.if_icmp .ge off, 3)) (ht : (pc : Int) + off = (tgt : Int)) (hc : ¬ y ≤ x) (kf : tz_V G E (pc + 3) L st σ) : tz_V G E pc L (.int y :: .int x :: st) σ := tz_icmp_ge tgt C d ht (P := False) (N := True) ⟨fun q => absurd q (by first | exact hc | exact fun z => z hc), fun _ => trivial⟩ (fun q => q.elim) (fun _ => kf)
theorem tz_icmp_gt {x y : Int32} {off : Int} (tgt : Nat) {P N : Prop} (C : tz_C G E cc own nL fr lo) (d : decode cc pc = .ok (.if_icmp .gt off, 3)) (ht : (pc : Int) + off = (tgt : Int)) (hp : (y < x → P) ∧ (¬ y < x → N)) (kt : P → tz_V G E tgt L st σ) (kf : N → tz_V G E (pc + 3) L st σ) : tz_V G E pc L (.int y :: .int x :: st) σ := by
  obtain ⟨⟨p, e, R, s, m, args, below, meth, c⟩, ⟨nL0, cells, slots, Q⟩⟩ := E
  intro H locs ls hP hS h
  exact lv_icmp_gt C.1.1 C.1.2.1 d ht (fun q => kt (hp.1 q) H locs ls hP hS h) (fun q => kf (hp.2 q) H locs ls hP hS h)
theorem tz_icmp_gt_t {x y : Int32} {off : Int} (tgt : Nat) (C : tz_C G E cc own nL fr lo) (d : decode cc pc = .ok (.if_icmp .gt off, 3)) (ht : (pc : Int) + off = (tgt : Int)) (hc : y < x) (kt : tz_V G E tgt L st σ) : tz_V G E pc L (.int y :: .int x :: st) σ := tz_icmp_gt tgt C d ht (P := True) (N := False) ⟨fun _ => trivial, fun q => absurd hc (by first | exact q | exact fun z => z q)⟩ (fun _ => kt) (fun q => q.elim)
theorem tz_icmp_gt_f {x y : Int32} {off : Int} (tgt : Nat) (C : tz_C G E cc own nL fr lo) (d : decode cc pc = .ok (.if_icmp .gt off, 3)) (ht : (pc : Int) + off = (tgt : Int)) (hc : ¬ y < x) (kf : tz_V G E (pc + 3) L st σ) : tz_V G E pc L (.int y :: .int x :: st) σ := tz_icmp_gt tgt C d ht (P := False) (N := True) ⟨fun q => absurd q (by first | exact hc | exact fun z => z hc), fun _ => trivial⟩ (fun q => q.elim) (fun _ => kf)
theorem tz_icmp_le {x y : Int32} {off : Int} (tgt : Nat) {P N : Prop} (C : tz_C G E cc own nL fr lo) (d : decode cc pc = .ok (.if_icmp .le off, 3)) (ht : (pc : Int) + off = (tgt : Int)) (hp : (x ≤ y → P) ∧ (¬ x ≤ y → N)) (kt : P → tz_V G E tgt L st σ) (kf : N → tz_V G E (pc + 3) L st σ) : tz_V G E pc L (.int y :: .int x :: st) σ := by
  obtain ⟨⟨p, e, R, s, m, args, below, meth, c⟩, ⟨nL0, cells, slots, Q⟩⟩ := E
  intro H locs ls hP hS h
  exact lv_icmp_le C.1.1 C.1.2.1 d ht (fun q => kt (hp.1 q) H locs ls hP hS h) (fun q => kf (hp.2 q) H locs ls hP hS h)
theorem tz_icmp_le_t {x y : Int32} {off : Int} (tgt : Nat) (C : tz_C G E cc own nL fr lo) (d : decode cc pc = .ok (.if_icmp .le off, 3)) (ht : (pc : Int) + off = (tgt : Int)) (hc : x ≤ y) (kt : tz_V G E tgt L st σ) : tz_V G E pc L (.int y :: .int x :: st) σ := tz_icmp_le tgt C d ht (P := True) (N := False) ⟨fun _ => trivial, fun q => absurd hc (by first | exact q | exact fun z => z q)⟩ (fun _ => kt) (fun q => q.elim)
theorem tz_icmp_le_f {x y : Int32} {off : Int} (tgt : Nat) (C : tz_C G E cc own nL fr lo) (d : decode cc pc = .ok (.if_icmp .le off, 3)) (ht : (pc : Int) + off = (tgt : Int)) (hc : ¬ x ≤ y) (kf : tz_V G E (pc + 3) L st σ) : tz_V G E pc L (.int y :: .int x :: st) σ := tz_icmp_le tgt C d ht (P := False) (N := True) ⟨fun q => absurd q (by first | exact hc | exact fun z => z hc), fun _ => trivial⟩ (fun q => q.elim) (fun _ => kf)
end TZ
end
section
/-- the link of a field access: entry 'index' of the own file's table is field j of the objects of kind ci -/
def tz_Fl (own : String) (index ci j : Nat) : Prop := ∃ q : vw_C, vwCl[ci]? = some q ∧ j < q.2.2 ∧ Cond.fieldLink own index (q.2.1 j).1 (q.2.1 j).2.1 (q.2.1 j).2.2.1 ∈ tz_TB ∧ ∀ w ∈ u_ws q.1 q.2.1 q.2.2, w ∈ tz_TB
/-- the same for writing: the field isn't final, and has this type; the kind's fields have types and names of their own -/
def tz_Fp (own : String) (index ci j : Nat) (ty : FieldType) : Prop := ∃ q : vw_C, vwCl[ci]? = some q ∧ j < q.2.2 ∧ Cond.fieldLink own index (q.2.1 j).1 (q.2.1 j).2.1 (q.2.1 j).2.2.1 ∈ tz_TB ∧ (∀ w ∈ u_ws q.1 q.2.1 q.2.2, w ∈ tz_TB) ∧ (q.2.1 j).2.2.2 = false ∧ parseFieldDescriptor (q.2.1 j).2.2.1 = some ty ∧ (∃ ty0 : Nat → FieldType, ∀ k, k < q.2.2 → parseFieldDescriptor (q.2.1 k).2.2.1 = some (ty0 k)) ∧ ∀ a, a < q.2.2 → ∀ b, b < q.2.2 → a ≠ b → (q.2.1 a).2.1 ≠ (q.2.1 b).2.1
/-- the link of a call of an own instance method -/
def tz_Lv (own : String) (index : Nat) (y : MethodName) (bytes : ByteArray) (maxL : Nat) (ret : Option FieldType) (n : Nat) : Prop := Cond.methodLink own index y ∈ tz_TB ∧ Cond.instanceMethod y ∈ tz_TB ∧ Cond.selects y.cls y y ∈ tz_TB ∧ Cond.initialized y.cls ∈ tz_TB ∧ Cond.code y bytes maxL ret ∈ tz_TB ∧ y.cls ≠ "java/lang/invoke/MethodHandle" ∧ y.cls ≠ "java/lang/invoke/VarHandle" ∧ (parseMethodDescriptor y.desc).map (fun d => d.parameters.length) = some n
def tz_Ls (own : String) (index : Nat) (y : MethodName) (bytes : ByteArray) (maxL : Nat) (ret : Option FieldType) (n : Nat) : Prop := Cond.methodLink own index y ∈ tz_TB ∧ Cond.static y ∈ tz_TB ∧ Cond.initialized y.cls ∈ tz_TB ∧ Cond.code y bytes maxL ret ∈ tz_TB ∧ y.cls ≠ "java/lang/invoke/MethodHandle" ∧ y.cls ≠ "java/lang/invoke/VarHandle" ∧ (parseMethodDescriptor y.desc).map (fun d => d.parameters.length) = some n
def tz_Ln (w : Cond) (own : String) (index : Nat) (y : MethodName) (bytes : ByteArray) (maxL : Nat) (ret : Option FieldType) (n : Nat) : Prop := w = .methodLinkNest own index y "TopicSeams" ∧ Cond.static y ∈ tz_TB ∧ Cond.initialized y.cls ∈ tz_TB ∧ Cond.code y bytes maxL ret ∈ tz_TB ∧ y.cls ≠ "java/lang/invoke/MethodHandle" ∧ y.cls ≠ "java/lang/invoke/VarHandle" ∧ (parseMethodDescriptor y.desc).map (fun d => d.parameters.length) = some n
section TZ2
variable {G : tzG} {E : tzE} {cc : ByteArray} {own : String} {nL fr lo pc : Nat} {L : List (Nat × Value)} {st : List Value} {σ : tzS}
theorem tz_getI {k ci j index : Nat} {rs : List (Option Nat)} (C : tz_C G E cc own nL fr lo) (d : decode cc pc = .ok (.getfield index, 3)) (f : tz_Fl own index ci j) (hk : k < tz_N) (hl : tz_lay k = .inl (ci, rs)) (hj : rs[j]? = some none) (kk : tz_V G E (pc + 3) L (.int (σ.1 k j) :: st) σ) : tz_V G E pc L (.ref k :: st) σ := by
  obtain ⟨⟨p, e, R, s, m, args, below, meth, c⟩, ⟨nL0, cells, slots, Q⟩⟩ := E
  obtain ⟨⟨C0, T0, N0⟩, h1, h2, h3, h4⟩ := f
  intro H locs ls hP hS h
  have he := tz_w_at (ad := G.2.1) (cy := G.2.2.1) (σ := σ) hk
  unfold tz_ent at he
  rw [hl] at he
  exact va_get C.1.1 C.1.2.1 C.1.2.2.2.2 h4 C.1.2.2.2.1 C.2.2.1.1 hP k he h1 j h2 (C.1.2.2.2.2 _ h3) (fun _ q => q) (tz_fs_int hj) d (kk H locs ls hP hS h)
theorem tz_getR {k ci j index : Nat} {rs : List (Option Nat)} {r : Nat} (C : tz_C G E cc own nL fr lo) (d : decode cc pc = .ok (.getfield index, 3)) (f : tz_Fl own index ci j) (hk : k < tz_N) (hl : tz_lay k = .inl (ci, rs)) (hj : rs[j]? = some (some r)) (kk : tz_V G E (pc + 3) L (.ref r :: st) σ) : tz_V G E pc L (.ref k :: st) σ := by
  obtain ⟨⟨p, e, R, s, m, args, below, meth, c⟩, ⟨nL0, cells, slots, Q⟩⟩ := E
  obtain ⟨⟨C0, T0, N0⟩, h1, h2, h3, h4⟩ := f
  intro H locs ls hP hS h
  have he := tz_w_at (ad := G.2.1) (cy := G.2.2.1) (σ := σ) hk
  unfold tz_ent at he
  rw [hl] at he
  exact va_get C.1.1 C.1.2.1 C.1.2.2.2.2 h4 C.1.2.2.2.1 C.2.2.1.1 hP k he h1 j h2 (C.1.2.2.2.2 _ h3) (fun _ q => q) (tz_fs_ref hj) d (kk H locs ls hP hS h)
theorem tz_st_ne {σ : tzS} {k j a : Nat} {v : Int32} (h : a ≠ k) : (tz_st σ k j v).1 a = σ.1 a := by
  funext b
  exact if_neg h
theorem tz_st_self {σ : tzS} {k j : Nat} {v : Int32} : (tz_st σ k j v).1 k = fun b => if b = j then v else σ.1 k b := by
  funext b
  exact if_pos rfl
theorem tz_put {k ci j index : Nat} {rs : List (Option Nat)} {ty : FieldType} {v : Int32} {P : tzS → Prop} (C : tz_C G E cc own nL fr lo) (d : decode cc pc = .ok (.putfield index, 3)) (f : tz_Fp own index ci j ty) (hk : k < tz_N) (hl : tz_lay k = .inl (ci, rs)) (hj : rs[j]? = some none) (hn : narrow ty (.int v) = .int v) (hf : fits ty (.int v) = true) (hp : ∀ σ', σ' = tz_st σ k j v → P σ') (kk : ∀ σ, P σ → tz_V G E (pc + 3) L st σ) : tz_V G E pc L (.int v :: .ref k :: st) σ := by
  obtain ⟨⟨p, e, R, s, m, args, below, meth, c⟩, ⟨nL0, cells, slots, Q⟩⟩ := E
  obtain ⟨⟨C0, T0, N0⟩, h1, h2, h3, h4, h5, h6, ⟨ty0, h7⟩, h8⟩ := f
  intro H locs ls hP hS h
  have he := tz_w_at (ad := G.2.1) (cy := G.2.2.1) (σ := σ) hk
  unfold tz_ent at he
  rw [hl] at he
  have hjl := (List.getElem?_eq_some_iff.mp hj).1
  refine va_put (ty := ty) (v := .int v) C.1.1 C.1.2.1 C.1.2.2.2.2 h4 ty0 h7 h8 C.1.2.2.2.1 C.2.2.1.1 hP (tz_D C.2.2.2.1 σ) hS k he h1 j h2 (C.1.2.2.2.2 _ h3) (fun _ q => q) h5 h6 hn hf (by rw [tz_fs_len]; exact hjl) d (fun H1 locs1 hP1 _ hS1 => ?_)
  have hw : (tz_w G.2.1 G.2.2.1 σ).set k (G.2.1 k, .inr (ci, (tz_fs G.2.1 (σ.1 k) rs).set j (.int v))) = tz_w G.2.1 G.2.2.1 (tz_st σ k j v) := by
    refine tz_w_set hk ?_ (fun i _ hi => tz_ent_eq (tz_st_ne hi) rfl)
    unfold tz_ent
    rw [hl]
    show Sum.inr (ci, _) = Sum.inr (ci, _)
    rw [tz_fs_set hj, tz_st_self]
  rw [hw] at hP1
  exact kk _ (hp _ rfl) H1 locs1 ls hP1 hS1 h
theorem tz_iald {k n b : Nat} {i : Int32} (C : tz_C G E cc own nL fr lo) (d : decode cc pc = .ok (.iaload, 1)) (hk : k < tz_N) (hl : tz_lay k = .inr (0, n, b)) (hin : vp_in i n) (kk : tz_V G E (pc + 1) L (.int (σ.1 k i.toNatClampNeg) :: st) σ) : tz_V G E pc L (.int i :: .ref k :: st) σ := by
  obtain ⟨⟨p, e, R, s, m, args, below, meth, c⟩, ⟨nL0, cells, slots, Q⟩⟩ := E
  intro H locs ls hP hS h
  have he := tz_w_at (ad := G.2.1) (cy := G.2.2.1) (σ := σ) hk
  unfold tz_ent at he
  rw [hl] at he
  exact va_iald C.1.1 C.1.2.1 C.2.2.1.1 hP k 0 he rfl hin d (kk H locs ls hP hS h)
theorem tz_zald {k n b : Nat} {i : Int32} (C : tz_C G E cc own nL fr lo) (d : decode cc pc = .ok (.baload, 1)) (hk : k < tz_N) (hl : tz_lay k = .inr (1, n, b)) (hin : vp_in i n) (kk : tz_V G E (pc + 1) L (.int (σ.1 k i.toNatClampNeg) :: st) σ) : tz_V G E pc L (.int i :: .ref k :: st) σ := by
  obtain ⟨⟨p, e, R, s, m, args, below, meth, c⟩, ⟨nL0, cells, slots, Q⟩⟩ := E
  intro H locs ls hP hS h
  have he := tz_w_at (ad := G.2.1) (cy := G.2.2.1) (σ := σ) hk
  unfold tz_ent at he
  rw [hl] at he
  exact va_zald C.1.1 C.1.2.1 C.2.2.1.1 hP k 1 he rfl hin d (kk H locs ls hP hS h)
theorem tz_lald {k n b : Nat} {i : Int32} (C : tz_C G E cc own nL fr lo) (d : decode cc pc = .ok (.laload, 1)) (hk : k < tz_N) (hl : tz_lay k = .inr (2, n, b)) (hin : vp_in i n) (kk : tz_V G E (pc + 1) L (.long (σ.2 k i.toNatClampNeg) :: st) σ) : tz_V G E pc L (.int i :: .ref k :: st) σ := by
  obtain ⟨⟨p, e, R, s, m, args, below, meth, c⟩, ⟨nL0, cells, slots, Q⟩⟩ := E
  intro H locs ls hP hS h
  have he := tz_w_at (ad := G.2.1) (cy := G.2.2.1) (σ := σ) hk
  unfold tz_ent at he
  rw [hl] at he
  exact va_lald C.1.1 C.1.2.1 C.2.2.1.1 hP k 2 he rfl hin d (kk H locs ls hP hS h)
theorem tz_aald {k n b : Nat} {i : Int32} (C : tz_C G E cc own nL fr lo) (d : decode cc pc = .ok (.aaload, 1)) (hk : k < tz_N) (hl : tz_lay k = .inr (3, n, b)) (hin : vp_in i n) (kk : tz_V G E (pc + 1) L (.ref (b + i.toNatClampNeg) :: st) σ) : tz_V G E pc L (.int i :: .ref k :: st) σ := by
  obtain ⟨⟨p, e, R, s, m, args, below, meth, c⟩, ⟨nL0, cells, slots, Q⟩⟩ := E
  intro H locs ls hP hS h
  have he := tz_w_at (ad := G.2.1) (cy := G.2.2.1) (σ := σ) hk
  unfold tz_ent at he
  rw [hl] at he
  have hlt : i.toNatClampNeg < n := Nat.not_le.mp fun q => hin (Or.inr q)
  have hK := C.2.2.1.1
  refine W.aald (v := .ref (G.2.1 (b + i.toNatClampNeg))) (ty := .array .int) C.1.1 C.1.2.1 (hP k _ he) ((hK.2 3 _ rfl).1 n (fun j => va_rf (if j < n then some (G.2.1 (b + j)) else none))) rfl (fun q => by cases q) (by show ¬ (i < 0 ∨ (arrV _ _ _).slots.size ≤ _); rw [arrV_size]; exact hin) ?_ rfl rfl d (kk H locs ls hP hS h)
  show (arrV _ _ _).slots[_]? = _
  rw [arrV_read _ _ hlt]
  show some (va_rf (if i.toNatClampNeg < n then some (G.2.1 (b + i.toNatClampNeg)) else none)) = _
  rw [if_pos hlt]
  rfl
theorem tz_iast {k n b : Nat} {i v : Int32} {P : tzS → Prop} (C : tz_C G E cc own nL fr lo) (d : decode cc pc = .ok (.iastore, 1)) (hk : k < tz_N) (hl : tz_lay k = .inr (0, n, b)) (hp : vp_in i n ∧ ∀ σ', σ' = tz_st σ k i.toNatClampNeg v → P σ') (kk : ∀ σ, P σ → tz_V G E (pc + 1) L st σ) : tz_V G E pc L (.int v :: .int i :: .ref k :: st) σ := by
  obtain ⟨⟨p, e, R, s, m, args, below, meth, c⟩, ⟨nL0, cells, slots, Q⟩⟩ := E
  intro H locs ls hP hS h
  have he := tz_w_at (ad := G.2.1) (cy := G.2.2.1) (σ := σ) hk
  unfold tz_ent at he
  rw [hl] at he
  refine va_iast C.1.1 C.1.2.1 C.2.2.1.1 hP (tz_D C.2.2.2.1 σ) hS k 0 he rfl hp.1 d (fun H1 locs1 hP1 _ hS1 => ?_)
  have hw : (tz_w G.2.1 G.2.2.1 σ).set k (G.2.1 k, .inl (G.2.2.1 0, n, .inl (upd (σ.1 k) i.toNatClampNeg v))) = tz_w G.2.1 G.2.2.1 (tz_st σ k i.toNatClampNeg v) := by
    refine tz_w_set hk ?_ (fun i _ hi => tz_ent_eq (tz_st_ne hi) rfl)
    unfold tz_ent
    rw [hl]
    show Sum.inl (_, n, Sum.inl _) = Sum.inl (_, n, Sum.inl _)
    rw [tz_st_self]
    rfl
  rw [hw] at hP1
  exact kk _ (hp.2 _ rfl) H1 locs1 ls hP1 hS1 h
theorem tz_zast {k n b : Nat} {i v : Int32} {P : tzS → Prop} (C : tz_C G E cc own nL fr lo) (d : decode cc pc = .ok (.bastore, 1)) (hk : k < tz_N) (hl : tz_lay k = .inr (1, n, b)) (hv : vp_nar .boolean v = v) (hp : vp_in i n ∧ ∀ σ', σ' = tz_st σ k i.toNatClampNeg v → P σ') (kk : ∀ σ, P σ → tz_V G E (pc + 1) L st σ) : tz_V G E pc L (.int v :: .int i :: .ref k :: st) σ := by
  obtain ⟨⟨p, e, R, s, m, args, below, meth, c⟩, ⟨nL0, cells, slots, Q⟩⟩ := E
  intro H locs ls hP hS h
  have he := tz_w_at (ad := G.2.1) (cy := G.2.2.1) (σ := σ) hk
  unfold tz_ent at he
  rw [hl] at he
  refine va_zast C.1.1 C.1.2.1 C.2.2.1.1 hP (tz_D C.2.2.2.1 σ) hS k 1 he rfl hp.1 d (fun H1 locs1 hP1 _ hS1 => ?_)
  have hw : (tz_w G.2.1 G.2.2.1 σ).set k (G.2.1 k, .inl (G.2.2.1 1, n, .inl (upd (σ.1 k) i.toNatClampNeg v))) = tz_w G.2.1 G.2.2.1 (tz_st σ k i.toNatClampNeg v) := by
    refine tz_w_set hk ?_ (fun i _ hi => tz_ent_eq (tz_st_ne hi) rfl)
    unfold tz_ent
    rw [hl]
    show Sum.inl (_, n, Sum.inl _) = Sum.inl (_, n, Sum.inl _)
    rw [tz_st_self]
    rfl
  rw [hv, hw] at hP1
  exact kk _ (hp.2 _ rfl) H1 locs1 ls hP1 hS1 h
theorem tz_last {k n b : Nat} {i : Int32} {v : Int64} {P : tzS → Prop} (C : tz_C G E cc own nL fr lo) (d : decode cc pc = .ok (.lastore, 1)) (hk : k < tz_N) (hl : tz_lay k = .inr (2, n, b)) (hp : vp_in i n ∧ ∀ σ', σ' = tz_sl σ k i.toNatClampNeg v → P σ') (kk : ∀ σ, P σ → tz_V G E (pc + 1) L st σ) : tz_V G E pc L (.long v :: .int i :: .ref k :: st) σ := by
  obtain ⟨⟨p, e, R, s, m, args, below, meth, c⟩, ⟨nL0, cells, slots, Q⟩⟩ := E
  intro H locs ls hP hS h
  have he := tz_w_at (ad := G.2.1) (cy := G.2.2.1) (σ := σ) hk
  unfold tz_ent at he
  rw [hl] at he
  refine va_last C.1.1 C.1.2.1 C.2.2.1.1 hP (tz_D C.2.2.2.1 σ) hS k 2 he rfl hp.1 d (fun H1 locs1 hP1 _ hS1 => ?_)
  have hw : (tz_w G.2.1 G.2.2.1 σ).set k (G.2.1 k, .inl (G.2.2.1 2, n, .inr (.inl (vp_updL (σ.2 k) i.toNatClampNeg v)))) = tz_w G.2.1 G.2.2.1 (tz_sl σ k i.toNatClampNeg v) := by
    refine tz_w_set hk ?_ (fun j _ hj => tz_ent_eq rfl (by funext b; exact if_neg hj))
    unfold tz_ent
    rw [hl]
    show Sum.inl (_, n, Sum.inr (Sum.inl _)) = Sum.inl (_, n, Sum.inr (Sum.inl _))
    have : (tz_sl σ k i.toNatClampNeg v).2 k = vp_updL (σ.2 k) i.toNatClampNeg v := by
      funext b
      exact if_pos rfl
    rw [this]
  rw [hw] at hP1
  exact kk _ (hp.2 _ rfl) H1 locs1 ls hP1 hS1 h
theorem tz_copy {k0 k1 n0 n1 b0 b1 index : Nat} {sp dp n : Int32} {P : tzS → Prop} (C : tz_C G E cc own nL fr lo) (d : decode cc pc = .ok (.invokestatic index, 3)) (w1 : Cond.methodLink own index arraycopyName ∈ tz_TB) (w2 : Cond.native arraycopyName ∈ tz_TB) (w3 : Cond.static arraycopyName ∈ tz_TB) (w4 : Cond.initialized "java/lang/System" ∈ tz_TB) (hr : 1 ≤ fr ∧ (st.map fun v => v.category).sum + (nativeFrameWords "java/lang/System" "arraycopy" 5 + 11) ≤ lo) (hk0 : k0 < tz_N) (hl0 : tz_lay k0 = .inr (0, n0, b0)) (hk1 : k1 < tz_N) (hl1 : tz_lay k1 = .inr (0, n1, b1)) (hp : (¬ sp < 0 ∧ ¬ dp < 0 ∧ ¬ n < 0 ∧ sp.toNatClampNeg + n.toNatClampNeg ≤ n0 ∧ dp.toNatClampNeg + n.toNatClampNeg ≤ n1) ∧ ∀ σ', σ' = tz_cp σ k0 k1 sp.toNatClampNeg dp.toNatClampNeg n.toNatClampNeg → P σ') (kk : ∀ σ, P σ → tz_V G E (pc + 3) L st σ) : tz_V G E pc L (.int n :: .int dp :: .ref k1 :: .int sp :: .ref k0 :: st) σ := by
  obtain ⟨⟨p, e, R, s, m, args, below, meth, c⟩, ⟨nL0, cells, slots, Q⟩⟩ := E
  obtain rfl : nL0 = nL := C.2.1
  intro H locs ls hP hS h
  have he0 := tz_w_at (ad := G.2.1) (cy := G.2.2.1) (σ := σ) hk0
  have he1 := tz_w_at (ad := G.2.1) (cy := G.2.2.1) (σ := σ) hk1
  unfold tz_ent at he0 he1
  rw [hl0] at he0
  rw [hl1] at he1
  obtain ⟨⟨g1, g2, g3, g4, g5⟩, hp⟩ := hp
  have hcat : ((st.map (tz_x G.2.1)).map fun v => v.category).sum = (st.map fun v => v.category).sum := by
    rw [List.map_map]
    congr 1
    apply List.map_congr_left
    intro v _
    exact tz_x_cat _ v
  refine va_copyi (ty := .int) C.1.1 C.1.2.1 (by rw [C.1.2.2.1]; exact h.1.symm) C.1.2.2.2.1 (C.1.2.2.2.2 _ w1) (C.1.2.2.2.2 _ w2) (C.1.2.2.2.2 _ w3) (C.1.2.2.2.2 _ w4) C.2.2.1.1 hP (tz_D C.2.2.2.1 σ) hS k0 k1 0 0 he0 he1 rfl rfl rfl g1 g2 g3 g4 g5 (fun _ _ => rfl) (Nat.le_trans hr.1 C.2.2.2.2.1) (by rw [hcat]; exact Nat.le_trans hr.2 C.2.2.2.2.2.1) d (fun H1 locs1 hP1 _ hS1 => ?_)
  have hw : (tz_w G.2.1 G.2.2.1 σ).set k1 (G.2.1 k1, .inl (G.2.2.1 0, n1, .inl (va_cpy (σ.1 k0) (σ.1 k1) sp.toNatClampNeg dp.toNatClampNeg n.toNatClampNeg))) = tz_w G.2.1 G.2.2.1 (tz_cp σ k0 k1 sp.toNatClampNeg dp.toNatClampNeg n.toNatClampNeg) := by
    refine tz_w_set hk1 ?_ (fun j _ hj => tz_ent_eq (by funext b; exact if_neg hj) rfl)
    unfold tz_ent
    rw [hl1]
    show Sum.inl (_, n1, Sum.inl _) = Sum.inl (_, n1, Sum.inl _)
    have : (tz_cp σ k0 k1 sp.toNatClampNeg dp.toNatClampNeg n.toNatClampNeg).1 k1 = va_cpy (σ.1 k0) (σ.1 k1) sp.toNatClampNeg dp.toNatClampNeg n.toNatClampNeg := by
      funext b
      exact if_pos rfl
    rw [this]
  rw [hw] at hP1
  exact kk _ (hp _ rfl) H1 locs1 ls hP1 hS1 h
theorem tz_cat {ad : Nat → Nat} {st : List Value} (h : (st.map fun v => v.category).sum ≤ 8) : ((st.map (tz_x ad)).map fun v => v.category).sum ≤ 8 := by
  have : ((st.map (tz_x ad)).map fun v => v.category).sum = (st.map fun v => v.category).sum := by
    rw [List.map_map]
    congr 1
    apply List.map_congr_left
    intro v _
    exact tz_x_cat _ v
  rw [this]
  exact h
theorem tz_catq {ad : Nat → Nat} {st : List Value} {n q : Nat} (h : (st.map fun v => v.category).sum + n ≤ q) : ((st.map (tz_x ad)).map fun v => v.category).sum + n ≤ q := by
  have : ((st.map (tz_x ad)).map fun v => v.category).sum = (st.map fun v => v.category).sum := by
    rw [List.map_map]
    congr 1
    apply List.map_congr_left
    intro v _
    exact tz_x_cat _ v
  rw [this]
  exact h
theorem tz_mmax {index : Nat} {x y : Int32} (C : tz_C G E cc own nL fr lo) (d : decode cc pc = .ok (.invokestatic index, 3)) (w1 : Cond.methodLink own index Lib.Math.max.name ∈ tz_TB) (w2 : Cond.static Lib.Math.max.name ∈ tz_TB) (w3 : Cond.initialized "java/lang/Math" ∈ tz_TB) (w4 : Cond.code Lib.Math.max.name Lib.Math.max.code 2 (some .int) ∈ tz_TB) (hr : 1 ≤ fr ∧ (st.map fun v => v.category).sum + 13 ≤ lo) (kk : tz_V G E (pc + 3) L (.int (if x < y then y else x) :: st) σ) : tz_V G E pc L (.int y :: .int x :: st) σ := by
  obtain ⟨⟨p, e, R, s, m, args, below, meth, c⟩, ⟨nL0, cells, slots, Q⟩⟩ := E
  obtain rfl : nL0 = nL := C.2.1
  intro H locs ls hP hS h
  exact va_mmax C.1.1 C.1.2.1 (by rw [C.1.2.2.1]; exact h.1.symm) C.1.2.2.2.1 (C.1.2.2.2.2 _ w1) (C.1.2.2.2.2 _ w2) (C.1.2.2.2.2 _ w3) (C.1.2.2.2.2 _ w4) (Nat.le_trans hr.1 C.2.2.2.2.1) (Nat.le_trans (tz_catq hr.2) C.2.2.2.2.2.1) C.2.2.2.2.2.2.1 C.2.2.2.2.2.2.2 d (kk H locs ls hP hS h)
theorem tz_mmin {index : Nat} {x y : Int32} (C : tz_C G E cc own nL fr lo) (d : decode cc pc = .ok (.invokestatic index, 3)) (w1 : Cond.methodLink own index Lib.Math.min.name ∈ tz_TB) (w2 : Cond.static Lib.Math.min.name ∈ tz_TB) (w3 : Cond.initialized "java/lang/Math" ∈ tz_TB) (w4 : Cond.code Lib.Math.min.name Lib.Math.min.code 2 (some .int) ∈ tz_TB) (hr : 1 ≤ fr ∧ (st.map fun v => v.category).sum + 13 ≤ lo) (kk : tz_V G E (pc + 3) L (.int (if y < x then y else x) :: st) σ) : tz_V G E pc L (.int y :: .int x :: st) σ := by
  obtain ⟨⟨p, e, R, s, m, args, below, meth, c⟩, ⟨nL0, cells, slots, Q⟩⟩ := E
  obtain rfl : nL0 = nL := C.2.1
  intro H locs ls hP hS h
  exact va_mmin C.1.1 C.1.2.1 (by rw [C.1.2.2.1]; exact h.1.symm) C.1.2.2.2.1 (C.1.2.2.2.2 _ w1) (C.1.2.2.2.2 _ w2) (C.1.2.2.2.2 _ w3) (C.1.2.2.2.2 _ w4) (Nat.le_trans hr.1 C.2.2.2.2.1) (Nat.le_trans (tz_catq hr.2) C.2.2.2.2.2.1) C.2.2.2.2.2.2.1 C.2.2.2.2.2.2.2 d (kk H locs ls hP hS h)
theorem tz_ldcw {index : Nat} (v : Int32) (C : tz_C G E cc own nL fr lo) (d : decode cc pc = .ok (.ldc_w index, 3)) (w : Cond.constant own index v ∈ tz_TB) (kk : tz_V G E (pc + 3) L (.int v :: st) σ) : tz_V G E pc L st σ := by
  obtain ⟨⟨p, e, R, s, m, args, below, meth, c⟩, ⟨nL0, cells, slots, Q⟩⟩ := E
  intro H locs ls hP hS h
  exact lv_ldcw C.1.1 C.1.2.1 C.1.2.2.2.1 (C.1.2.2.2.2 _ w) d (kk H locs ls hP hS h)
theorem tz_ldc {index : Nat} (v : Int32) (C : tz_C G E cc own nL fr lo) (d : decode cc pc = .ok (.ldc index, 2)) (w : Cond.constant own index v ∈ tz_TB) (kk : tz_V G E (pc + 2) L (.int v :: st) σ) : tz_V G E pc L st σ := by
  obtain ⟨⟨p, e, R, s, m, args, below, meth, c⟩, ⟨nL0, cells, slots, Q⟩⟩ := E
  intro H locs ls hP hS h
  exact lv_ldc C.1.1 C.1.2.1 C.1.2.2.2.1 (C.1.2.2.2.2 _ w) d (kk H locs ls hP hS h)
theorem tz_ldc2 {index : Nat} (v : Int64) (C : tz_C G E cc own nL fr lo) (d : decode cc pc = .ok (.ldc2_w index, 3)) (w : Cond.constantLong own index v ∈ tz_TB) (kk : tz_V G E (pc + 3) L (.long v :: st) σ) : tz_V G E pc L st σ := by
  obtain ⟨⟨p, e, R, s, m, args, below, meth, c⟩, ⟨nL0, cells, slots, Q⟩⟩ := E
  intro H locs ls hP hS h
  exact lv_ldc2 C.1.1 C.1.2.1 C.1.2.2.2.1 (C.1.2.2.2.2 _ w) d (kk H locs ls hP hS h)
/-- a static table: LEAST (1000), MOST (1001) -/
theorem tz_getsL {index : Nat} (C : tz_C G E cc own nL fr lo) (d : decode cc pc = .ok (.getstatic index, 3)) (w : Cond.fieldLink own index "TopicSeams" "LEAST" "[I" ∈ tz_TB) (kk : tz_V G E (pc + 3) L (.ref 1000 :: st) σ) : tz_V G E pc L st σ := by
  obtain ⟨⟨p, e, R, s, m, args, below, meth, c⟩, ⟨nL0, cells, slots, Q⟩⟩ := E
  intro H locs ls hP hS h
  exact va_gets C.1.1 C.1.2.1 C.2.2.1.2.2.2.1 hS C.1.2.2.2.1 (C.1.2.2.2.2 _ w) (fun _ q => q) d (kk H locs ls hP hS h)
theorem tz_getsM {index : Nat} (C : tz_C G E cc own nL fr lo) (d : decode cc pc = .ok (.getstatic index, 3)) (w : Cond.fieldLink own index "TopicSeams" "MOST" "[I" ∈ tz_TB) (kk : tz_V G E (pc + 3) L (.ref 1001 :: st) σ) : tz_V G E pc L st σ := by
  obtain ⟨⟨p, e, R, s, m, args, below, meth, c⟩, ⟨nL0, cells, slots, Q⟩⟩ := E
  intro H locs ls hP hS h
  exact va_gets C.1.1 C.1.2.1 C.2.2.1.2.2.2.2.2.1 hS C.1.2.2.2.1 (C.1.2.2.2.2 _ w) (fun _ q => q) d (kk H locs ls hP hS h)
theorem tz_tldL {i : Int32} (C : tz_C G E cc own nL fr lo) (d : decode cc pc = .ok (.iaload, 1)) (hin : vp_in i 4) (kk : tz_V G E (pc + 1) L (.int (tz_least i.toNatClampNeg) :: st) σ) : tz_V G E pc L (.int i :: .ref 1000 :: st) σ := by
  obtain ⟨⟨p, e, R, s, m, args, below, meth, c⟩, ⟨nL0, cells, slots, Q⟩⟩ := E
  intro H locs ls hP hS h
  exact va_ti C.1.1 C.1.2.1 C.2.2.1.2.2.2.2.1 hS hin rfl d (kk H locs ls hP hS h)
theorem tz_tldM {i : Int32} (C : tz_C G E cc own nL fr lo) (d : decode cc pc = .ok (.iaload, 1)) (hin : vp_in i 4) (kk : tz_V G E (pc + 1) L (.int (tz_most i.toNatClampNeg) :: st) σ) : tz_V G E pc L (.int i :: .ref 1001 :: st) σ := by
  obtain ⟨⟨p, e, R, s, m, args, below, meth, c⟩, ⟨nL0, cells, slots, Q⟩⟩ := E
  intro H locs ls hP hS h
  exact va_ti C.1.1 C.1.2.1 C.2.2.1.2.2.2.2.2.2 hS hin rfl d (kk H locs ls hP hS h)
theorem tz_tabIn {dflt lw hw : Int} {offs : Array Int} {len : Nat} {x : Int32} (off : Int) (tgt : Nat) (C : tz_C G E cc own nL fr lo) (d : decode cc pc = .ok (.tableswitch dflt lw hw offs, len)) (h1 : ¬ x.toInt < lw) (h2 : ¬ hw < x.toInt) (ho : offs[(x.toInt - lw).toNat]? = some off) (ht : (pc : Int) + off = (tgt : Int)) (kk : tz_V G E tgt L st σ) : tz_V G E pc L (.int x :: st) σ := by
  obtain ⟨⟨p, e, R, s, m, args, below, meth, c⟩, ⟨nL0, cells, slots, Q⟩⟩ := E
  intro H locs ls hP hS h
  exact lv_tableIn C.1.1 C.1.2.1 d h1 h2 ho ht (kk H locs ls hP hS h)
theorem tz_tabOut {dflt lw hw : Int} {offs : Array Int} {len : Nat} {x : Int32} (tgt : Nat) (C : tz_C G E cc own nL fr lo) (d : decode cc pc = .ok (.tableswitch dflt lw hw offs, len)) (h1 : x.toInt < lw ∨ hw < x.toInt) (ht : (pc : Int) + dflt = (tgt : Int)) (kk : tz_V G E tgt L st σ) : tz_V G E pc L (.int x :: st) σ := by
  obtain ⟨⟨p, e, R, s, m, args, below, meth, c⟩, ⟨nL0, cells, slots, Q⟩⟩ := E
  intro H locs ls hP hS h
  exact lv_tableOut C.1.1 C.1.2.1 d h1 ht (kk H locs ls hP hS h)

theorem tz_calliv {y : MethodName} {bytes : ByteArray} {maxL index n f0 l0 : Nat} {ret : Option FieldType} {vs stk : List Value} {k ci : Nat} {rs : List (Option Nat)} {q9 : vw_C}  {Q9 : Int32 → tzS → Prop} (C : tz_C G E cc own nL fr lo) (d : decode cc pc = .ok (.invokevirtual index, 3)) (w : tz_Lv own index y bytes maxL ret n) (hM : tz_M G y bytes maxL ret f0 l0 (.ref k :: vs) σ (tz_Qi G Q9)) (hk : k < tz_N) (hl : tz_lay k = .inl (ci, rs)) (hc : vwCl[ci]? = some q9) (hy : q9.1 = y.cls) (hn : vs.length = n) (hr : f0 + 1 ≤ fr ∧ 8 + (maxL + 11) + l0 ≤ lo) (hst : (st.map fun v => v.category).sum ≤ 8) (hs : stk = vs.reverse ++ .ref k :: st) (kk : ∀ (r : Int32) σ, Q9 r σ → tz_V G E (pc + 3) L (.int r :: st) σ) : tz_V G E pc L stk σ := by
  subst hs
  obtain ⟨⟨p, e, R, s, m, args, below, meth, c⟩, ⟨nL0, cells, slots, Q⟩⟩ := E
  obtain rfl : nL0 = nL := C.2.1
  intro H locs ls hP hS h
  obtain ⟨w1, w2, w3, w4, w5, w6, w7, w8⟩ := w
  obtain ⟨⟨cx, cb, cm, co, ct⟩, -, cK, cok, cf, cl, cce, csl⟩ := id C
  have he := tz_w_at (ad := G.2.1) (cy := G.2.2.1) (σ := σ) hk
  unfold tz_ent at he
  rw [hl] at he
  have hG : GoodIn tz_TB (wsV own index y.cls y (Cond.code y bytes maxL ret :: tz_TB)) := by
    intro w hw
    rcases List.mem_append.mp hw with q | q
    · rcases List.mem_cons.mp q with rfl | q
      · exact ⟨w1, good_of_word (List.mem_filter.mp w1).2⟩
      · rcases List.mem_cons.mp q with rfl | q
        · exact ⟨w2, good_of_word (List.mem_filter.mp w2).2⟩
        · rcases List.mem_cons.mp q with rfl | q
          · exact ⟨w3, good_of_word (List.mem_filter.mp w3).2⟩
          · rcases List.mem_cons.mp q with rfl | q
            · exact ⟨w4, good_of_word (List.mem_filter.mp w4).2⟩
            · cases q
    · exact tz_good w5 w q
  have hrc := va_recv (q := q9) cK.1 hP hc he
  rw [hy] at hrc
  refine va_calli (va_runV (As := vs.map (tz_x G.2.1)) (rest := st.map (tz_x G.2.1)) (b := G.2.1 k) ⟨cx, cb, cm, co, ct⟩ hM (cwV n ct hG rfl rfl rfl ⟨rfl, w6, w7, w8⟩ ⟨Nat.le_trans hr.1 cf, Nat.le_trans hr.2 cl⟩) ⟨tz_Pc.blind G _ σ, hrc, fun U hU hW => ⟨rfl, by rw [hU]; exact hP, cK.warm hW hU hS⟩⟩ rfl (by rw [List.length_map]; exact hn) h.1 (by show List.map (tz_x G.2.1) (vs.reverse ++ .ref k :: st) = _; rw [List.map_append, List.map_reverse]; rfl) (lv_room (tz_cat hst)) d ⟨cce, csl⟩) hS (fun q _ z => z) (fun q z => z) (fun r u t H1 locs1 ht hvm hw hB hz1 hk1 hS1 => ?_)
  exact kk r u hw H1 locs1 ls (by rw [← ht]; exact hB) hS1 h
theorem tz_callis {y : MethodName} {bytes : ByteArray} {maxL index n f0 l0 : Nat} {ret : Option FieldType} {vs stk : List Value}   {Q9 : Int32 → tzS → Prop} (C : tz_C G E cc own nL fr lo) (d : decode cc pc = .ok (.invokestatic index, 3)) (w : tz_Ls own index y bytes maxL ret n) (hM : tz_M G y bytes maxL ret f0 l0 (vs) σ (tz_Qi G Q9))  (hn : vs.length = n) (hr : f0 + 1 ≤ fr ∧ 8 + (maxL + 11) + l0 ≤ lo) (hst : (st.map fun v => v.category).sum ≤ 8) (hs : stk = vs.reverse ++ st) (kk : ∀ (r : Int32) σ, Q9 r σ → tz_V G E (pc + 3) L (.int r :: st) σ) : tz_V G E pc L stk σ := by
  subst hs
  obtain ⟨⟨p, e, R, s, m, args, below, meth, c⟩, ⟨nL0, cells, slots, Q⟩⟩ := E
  obtain rfl : nL0 = nL := C.2.1
  intro H locs ls hP hS h
  obtain ⟨w1, w2, w4, w5, w6, w7, w8⟩ := w
  obtain ⟨⟨cx, cb, cm, co, ct⟩, -, cK, cok, cf, cl, cce, csl⟩ := id C
  have hG : GoodIn tz_TB (va_wsS own index y (Cond.code y bytes maxL ret :: tz_TB)) := by
    intro w hw
    rcases List.mem_append.mp hw with q | q
    · rcases List.mem_cons.mp q with rfl | q
      · exact ⟨w1, good_of_word (List.mem_filter.mp w1).2⟩
      · rcases List.mem_cons.mp q with rfl | q
        · exact ⟨w2, good_of_word (List.mem_filter.mp w2).2⟩
        · rcases List.mem_cons.mp q with rfl | q
          · exact ⟨w4, good_of_word (List.mem_filter.mp w4).2⟩
          · cases q
    · exact tz_good w5 w q
  refine va_calli (va_runS (As := vs.map (tz_x G.2.1)) (rest := st.map (tz_x G.2.1)) ⟨cx, cb, cm, co, ct⟩ hM (va_cwS n ct hG rfl rfl rfl ⟨w6, w7, w8⟩ ⟨Nat.le_trans hr.1 cf, Nat.le_trans hr.2 cl⟩) ⟨tz_Pc.blind G _ σ, fun U hU hW => ⟨rfl, by rw [hU]; exact hP, cK.warm hW hU hS⟩⟩ rfl (by rw [List.length_map]; exact hn) h.1 (by show List.map (tz_x G.2.1) (vs.reverse ++ st) = _; rw [List.map_append, List.map_reverse]) (lv_room (tz_cat hst)) d ⟨cce, csl⟩) hS (fun q _ z => z) (fun q z => z) (fun r u t H1 locs1 ht hvm hw hB hz1 hk1 hS1 => ?_)
  exact kk r u hw H1 locs1 ls (by rw [← ht]; exact hB) hS1 h
theorem tz_callin {y : MethodName} {bytes : ByteArray} {maxL index n f0 l0 : Nat} {ret : Option FieldType} {vs stk : List Value}  {w9 : Cond} (hw9 : w9 = tz_nest1 ∨ w9 = tz_nest2) {Q9 : Int32 → tzS → Prop} (C : tz_C G E cc own nL fr lo) (d : decode cc pc = .ok (.invokestatic index, 3)) (w : tz_Ln w9 own index y bytes maxL ret n) (hM : tz_M G y bytes maxL ret f0 l0 (vs) σ (tz_Qi G Q9))  (hn : vs.length = n) (hr : f0 + 1 ≤ fr ∧ 8 + (maxL + 11) + l0 ≤ lo) (hst : (st.map fun v => v.category).sum ≤ 8) (hs : stk = vs.reverse ++ st) (kk : ∀ (r : Int32) σ, Q9 r σ → tz_V G E (pc + 3) L (.int r :: st) σ) : tz_V G E pc L stk σ := by
  subst hs
  obtain ⟨⟨p, e, R, s, m, args, below, meth, c⟩, ⟨nL0, cells, slots, Q⟩⟩ := E
  obtain rfl : nL0 = nL := C.2.1
  intro H locs ls hP hS h
  obtain ⟨w1, w2, w4, w5, w6, w7, w8⟩ := w
  obtain ⟨⟨cx, cb, cm, co, ct⟩, -, cK, cok, cf, cl, cce, csl⟩ := id C
  have hN : va_Nw w9 s := by
    rcases hw9 with rfl | rfl
    · exact cK.2.1
    · exact cK.2.2.1
  rw [w1] at hN
  refine va_calli (va_runSN (As := vs.map (tz_x G.2.1)) (rest := st.map (tz_x G.2.1)) ⟨cx, cb, cm, co, ct⟩ hM ⟨va_cnB n ct (tz_good w5) rfl rfl rfl hN (ct _ w4) ⟨w6, w7, w8⟩ ⟨Nat.le_trans hr.1 cf, Nat.le_trans hr.2 cl⟩, ct _ w2, trivial⟩ ⟨tz_Pc.blind G _ σ, fun U hU hW => ⟨rfl, by rw [hU]; exact hP, cK.warm hW hU hS⟩⟩ rfl (by rw [List.length_map]; exact hn) h.1 (by show List.map (tz_x G.2.1) (vs.reverse ++ st) = _; rw [List.map_append, List.map_reverse]) (lv_room (tz_cat hst)) d ⟨cce, csl⟩) hS (fun q _ z => z) (fun q z => z) (fun r u t H1 locs1 ht hvm hw hB hz1 hk1 hS1 => ?_)
  exact kk r u hw H1 locs1 ls (by rw [← ht]; exact hB) hS1 h
theorem tz_calllv {y : MethodName} {bytes : ByteArray} {maxL index n f0 l0 : Nat} {ret : Option FieldType} {vs stk : List Value} {k ci : Nat} {rs : List (Option Nat)} {q9 : vw_C}  {Q9 : Int64 → tzS → Prop} (C : tz_C G E cc own nL fr lo) (d : decode cc pc = .ok (.invokevirtual index, 3)) (w : tz_Lv own index y bytes maxL ret n) (hM : tz_M G y bytes maxL ret f0 l0 (.ref k :: vs) σ (tz_Ql G Q9)) (hk : k < tz_N) (hl : tz_lay k = .inl (ci, rs)) (hc : vwCl[ci]? = some q9) (hy : q9.1 = y.cls) (hn : vs.length = n) (hr : f0 + 1 ≤ fr ∧ 8 + (maxL + 11) + l0 ≤ lo) (hst : (st.map fun v => v.category).sum ≤ 8) (hs : stk = vs.reverse ++ .ref k :: st) (kk : ∀ (r : Int64) σ, Q9 r σ → tz_V G E (pc + 3) L (.long r :: st) σ) : tz_V G E pc L stk σ := by
  subst hs
  obtain ⟨⟨p, e, R, s, m, args, below, meth, c⟩, ⟨nL0, cells, slots, Q⟩⟩ := E
  obtain rfl : nL0 = nL := C.2.1
  intro H locs ls hP hS h
  obtain ⟨w1, w2, w3, w4, w5, w6, w7, w8⟩ := w
  obtain ⟨⟨cx, cb, cm, co, ct⟩, -, cK, cok, cf, cl, cce, csl⟩ := id C
  have he := tz_w_at (ad := G.2.1) (cy := G.2.2.1) (σ := σ) hk
  unfold tz_ent at he
  rw [hl] at he
  have hG : GoodIn tz_TB (wsV own index y.cls y (Cond.code y bytes maxL ret :: tz_TB)) := by
    intro w hw
    rcases List.mem_append.mp hw with q | q
    · rcases List.mem_cons.mp q with rfl | q
      · exact ⟨w1, good_of_word (List.mem_filter.mp w1).2⟩
      · rcases List.mem_cons.mp q with rfl | q
        · exact ⟨w2, good_of_word (List.mem_filter.mp w2).2⟩
        · rcases List.mem_cons.mp q with rfl | q
          · exact ⟨w3, good_of_word (List.mem_filter.mp w3).2⟩
          · rcases List.mem_cons.mp q with rfl | q
            · exact ⟨w4, good_of_word (List.mem_filter.mp w4).2⟩
            · cases q
    · exact tz_good w5 w q
  have hrc := va_recv (q := q9) cK.1 hP hc he
  rw [hy] at hrc
  refine va_calll (va_runV (As := vs.map (tz_x G.2.1)) (rest := st.map (tz_x G.2.1)) (b := G.2.1 k) ⟨cx, cb, cm, co, ct⟩ hM (cwV n ct hG rfl rfl rfl ⟨rfl, w6, w7, w8⟩ ⟨Nat.le_trans hr.1 cf, Nat.le_trans hr.2 cl⟩) ⟨tz_Pc.blind G _ σ, hrc, fun U hU hW => ⟨rfl, by rw [hU]; exact hP, cK.warm hW hU hS⟩⟩ rfl (by rw [List.length_map]; exact hn) h.1 (by show List.map (tz_x G.2.1) (vs.reverse ++ .ref k :: st) = _; rw [List.map_append, List.map_reverse]; rfl) (lv_room (tz_cat hst)) d ⟨cce, csl⟩) hS (fun q _ z => z) (fun q z => z) (fun r u t H1 locs1 ht hvm hw hB hz1 hk1 hS1 => ?_)
  exact kk r u hw H1 locs1 ls (by rw [← ht]; exact hB) hS1 h
theorem tz_callls {y : MethodName} {bytes : ByteArray} {maxL index n f0 l0 : Nat} {ret : Option FieldType} {vs stk : List Value}   {Q9 : Int64 → tzS → Prop} (C : tz_C G E cc own nL fr lo) (d : decode cc pc = .ok (.invokestatic index, 3)) (w : tz_Ls own index y bytes maxL ret n) (hM : tz_M G y bytes maxL ret f0 l0 (vs) σ (tz_Ql G Q9))  (hn : vs.length = n) (hr : f0 + 1 ≤ fr ∧ 8 + (maxL + 11) + l0 ≤ lo) (hst : (st.map fun v => v.category).sum ≤ 8) (hs : stk = vs.reverse ++ st) (kk : ∀ (r : Int64) σ, Q9 r σ → tz_V G E (pc + 3) L (.long r :: st) σ) : tz_V G E pc L stk σ := by
  subst hs
  obtain ⟨⟨p, e, R, s, m, args, below, meth, c⟩, ⟨nL0, cells, slots, Q⟩⟩ := E
  obtain rfl : nL0 = nL := C.2.1
  intro H locs ls hP hS h
  obtain ⟨w1, w2, w4, w5, w6, w7, w8⟩ := w
  obtain ⟨⟨cx, cb, cm, co, ct⟩, -, cK, cok, cf, cl, cce, csl⟩ := id C
  have hG : GoodIn tz_TB (va_wsS own index y (Cond.code y bytes maxL ret :: tz_TB)) := by
    intro w hw
    rcases List.mem_append.mp hw with q | q
    · rcases List.mem_cons.mp q with rfl | q
      · exact ⟨w1, good_of_word (List.mem_filter.mp w1).2⟩
      · rcases List.mem_cons.mp q with rfl | q
        · exact ⟨w2, good_of_word (List.mem_filter.mp w2).2⟩
        · rcases List.mem_cons.mp q with rfl | q
          · exact ⟨w4, good_of_word (List.mem_filter.mp w4).2⟩
          · cases q
    · exact tz_good w5 w q
  refine va_calll (va_runS (As := vs.map (tz_x G.2.1)) (rest := st.map (tz_x G.2.1)) ⟨cx, cb, cm, co, ct⟩ hM (va_cwS n ct hG rfl rfl rfl ⟨w6, w7, w8⟩ ⟨Nat.le_trans hr.1 cf, Nat.le_trans hr.2 cl⟩) ⟨tz_Pc.blind G _ σ, fun U hU hW => ⟨rfl, by rw [hU]; exact hP, cK.warm hW hU hS⟩⟩ rfl (by rw [List.length_map]; exact hn) h.1 (by show List.map (tz_x G.2.1) (vs.reverse ++ st) = _; rw [List.map_append, List.map_reverse]) (lv_room (tz_cat hst)) d ⟨cce, csl⟩) hS (fun q _ z => z) (fun q z => z) (fun r u t H1 locs1 ht hvm hw hB hz1 hk1 hS1 => ?_)
  exact kk r u hw H1 locs1 ls (by rw [← ht]; exact hB) hS1 h
theorem tz_callln {y : MethodName} {bytes : ByteArray} {maxL index n f0 l0 : Nat} {ret : Option FieldType} {vs stk : List Value}  {w9 : Cond} (hw9 : w9 = tz_nest1 ∨ w9 = tz_nest2) {Q9 : Int64 → tzS → Prop} (C : tz_C G E cc own nL fr lo) (d : decode cc pc = .ok (.invokestatic index, 3)) (w : tz_Ln w9 own index y bytes maxL ret n) (hM : tz_M G y bytes maxL ret f0 l0 (vs) σ (tz_Ql G Q9))  (hn : vs.length = n) (hr : f0 + 1 ≤ fr ∧ 8 + (maxL + 11) + l0 ≤ lo) (hst : (st.map fun v => v.category).sum ≤ 8) (hs : stk = vs.reverse ++ st) (kk : ∀ (r : Int64) σ, Q9 r σ → tz_V G E (pc + 3) L (.long r :: st) σ) : tz_V G E pc L stk σ := by
  subst hs
  obtain ⟨⟨p, e, R, s, m, args, below, meth, c⟩, ⟨nL0, cells, slots, Q⟩⟩ := E
  obtain rfl : nL0 = nL := C.2.1
  intro H locs ls hP hS h
  obtain ⟨w1, w2, w4, w5, w6, w7, w8⟩ := w
  obtain ⟨⟨cx, cb, cm, co, ct⟩, -, cK, cok, cf, cl, cce, csl⟩ := id C
  have hN : va_Nw w9 s := by
    rcases hw9 with rfl | rfl
    · exact cK.2.1
    · exact cK.2.2.1
  rw [w1] at hN
  refine va_calll (va_runSN (As := vs.map (tz_x G.2.1)) (rest := st.map (tz_x G.2.1)) ⟨cx, cb, cm, co, ct⟩ hM ⟨va_cnB n ct (tz_good w5) rfl rfl rfl hN (ct _ w4) ⟨w6, w7, w8⟩ ⟨Nat.le_trans hr.1 cf, Nat.le_trans hr.2 cl⟩, ct _ w2, trivial⟩ ⟨tz_Pc.blind G _ σ, fun U hU hW => ⟨rfl, by rw [hU]; exact hP, cK.warm hW hU hS⟩⟩ rfl (by rw [List.length_map]; exact hn) h.1 (by show List.map (tz_x G.2.1) (vs.reverse ++ st) = _; rw [List.map_append, List.map_reverse]) (lv_room (tz_cat hst)) d ⟨cce, csl⟩) hS (fun q _ z => z) (fun q z => z) (fun r u t H1 locs1 ht hvm hw hB hz1 hk1 hS1 => ?_)
  exact kk r u hw H1 locs1 ls (by rw [← ht]; exact hB) hS1 h
theorem tz_callvv {y : MethodName} {bytes : ByteArray} {maxL index n f0 l0 : Nat} {ret : Option FieldType} {vs stk : List Value} {k ci : Nat} {rs : List (Option Nat)} {q9 : vw_C}  {Q9 : tzS → Prop} (C : tz_C G E cc own nL fr lo) (d : decode cc pc = .ok (.invokevirtual index, 3)) (w : tz_Lv own index y bytes maxL ret n) (hM : tz_M G y bytes maxL ret f0 l0 (.ref k :: vs) σ (tz_Qv G Q9)) (hk : k < tz_N) (hl : tz_lay k = .inl (ci, rs)) (hc : vwCl[ci]? = some q9) (hy : q9.1 = y.cls) (hn : vs.length = n) (hr : f0 + 1 ≤ fr ∧ 8 + (maxL + 11) + l0 ≤ lo) (hst : (st.map fun v => v.category).sum ≤ 8) (hs : stk = vs.reverse ++ .ref k :: st) (kk : ∀ σ, Q9 σ → tz_V G E (pc + 3) L (st) σ) : tz_V G E pc L stk σ := by
  subst hs
  obtain ⟨⟨p, e, R, s, m, args, below, meth, c⟩, ⟨nL0, cells, slots, Q⟩⟩ := E
  obtain rfl : nL0 = nL := C.2.1
  intro H locs ls hP hS h
  obtain ⟨w1, w2, w3, w4, w5, w6, w7, w8⟩ := w
  obtain ⟨⟨cx, cb, cm, co, ct⟩, -, cK, cok, cf, cl, cce, csl⟩ := id C
  have he := tz_w_at (ad := G.2.1) (cy := G.2.2.1) (σ := σ) hk
  unfold tz_ent at he
  rw [hl] at he
  have hG : GoodIn tz_TB (wsV own index y.cls y (Cond.code y bytes maxL ret :: tz_TB)) := by
    intro w hw
    rcases List.mem_append.mp hw with q | q
    · rcases List.mem_cons.mp q with rfl | q
      · exact ⟨w1, good_of_word (List.mem_filter.mp w1).2⟩
      · rcases List.mem_cons.mp q with rfl | q
        · exact ⟨w2, good_of_word (List.mem_filter.mp w2).2⟩
        · rcases List.mem_cons.mp q with rfl | q
          · exact ⟨w3, good_of_word (List.mem_filter.mp w3).2⟩
          · rcases List.mem_cons.mp q with rfl | q
            · exact ⟨w4, good_of_word (List.mem_filter.mp w4).2⟩
            · cases q
    · exact tz_good w5 w q
  have hrc := va_recv (q := q9) cK.1 hP hc he
  rw [hy] at hrc
  refine va_callv (va_runV (As := vs.map (tz_x G.2.1)) (rest := st.map (tz_x G.2.1)) (b := G.2.1 k) ⟨cx, cb, cm, co, ct⟩ hM (cwV n ct hG rfl rfl rfl ⟨rfl, w6, w7, w8⟩ ⟨Nat.le_trans hr.1 cf, Nat.le_trans hr.2 cl⟩) ⟨tz_Pc.blind G _ σ, hrc, fun U hU hW => ⟨rfl, by rw [hU]; exact hP, cK.warm hW hU hS⟩⟩ rfl (by rw [List.length_map]; exact hn) h.1 (by show List.map (tz_x G.2.1) (vs.reverse ++ .ref k :: st) = _; rw [List.map_append, List.map_reverse]; rfl) (lv_room (tz_cat hst)) d ⟨cce, csl⟩) hS (fun q _ z => z) (fun q z => z) (fun u t H1 locs1 ht hvm hw hB hz1 hk1 hS1 => ?_)
  exact kk u hw H1 locs1 ls (by rw [← ht]; exact hB) hS1 h
theorem tz_callvs {y : MethodName} {bytes : ByteArray} {maxL index n f0 l0 : Nat} {ret : Option FieldType} {vs stk : List Value}   {Q9 : tzS → Prop} (C : tz_C G E cc own nL fr lo) (d : decode cc pc = .ok (.invokestatic index, 3)) (w : tz_Ls own index y bytes maxL ret n) (hM : tz_M G y bytes maxL ret f0 l0 (vs) σ (tz_Qv G Q9))  (hn : vs.length = n) (hr : f0 + 1 ≤ fr ∧ 8 + (maxL + 11) + l0 ≤ lo) (hst : (st.map fun v => v.category).sum ≤ 8) (hs : stk = vs.reverse ++ st) (kk : ∀ σ, Q9 σ → tz_V G E (pc + 3) L (st) σ) : tz_V G E pc L stk σ := by
  subst hs
  obtain ⟨⟨p, e, R, s, m, args, below, meth, c⟩, ⟨nL0, cells, slots, Q⟩⟩ := E
  obtain rfl : nL0 = nL := C.2.1
  intro H locs ls hP hS h
  obtain ⟨w1, w2, w4, w5, w6, w7, w8⟩ := w
  obtain ⟨⟨cx, cb, cm, co, ct⟩, -, cK, cok, cf, cl, cce, csl⟩ := id C
  have hG : GoodIn tz_TB (va_wsS own index y (Cond.code y bytes maxL ret :: tz_TB)) := by
    intro w hw
    rcases List.mem_append.mp hw with q | q
    · rcases List.mem_cons.mp q with rfl | q
      · exact ⟨w1, good_of_word (List.mem_filter.mp w1).2⟩
      · rcases List.mem_cons.mp q with rfl | q
        · exact ⟨w2, good_of_word (List.mem_filter.mp w2).2⟩
        · rcases List.mem_cons.mp q with rfl | q
          · exact ⟨w4, good_of_word (List.mem_filter.mp w4).2⟩
          · cases q
    · exact tz_good w5 w q
  refine va_callv (va_runS (As := vs.map (tz_x G.2.1)) (rest := st.map (tz_x G.2.1)) ⟨cx, cb, cm, co, ct⟩ hM (va_cwS n ct hG rfl rfl rfl ⟨w6, w7, w8⟩ ⟨Nat.le_trans hr.1 cf, Nat.le_trans hr.2 cl⟩) ⟨tz_Pc.blind G _ σ, fun U hU hW => ⟨rfl, by rw [hU]; exact hP, cK.warm hW hU hS⟩⟩ rfl (by rw [List.length_map]; exact hn) h.1 (by show List.map (tz_x G.2.1) (vs.reverse ++ st) = _; rw [List.map_append, List.map_reverse]) (lv_room (tz_cat hst)) d ⟨cce, csl⟩) hS (fun q _ z => z) (fun q z => z) (fun u t H1 locs1 ht hvm hw hB hz1 hk1 hS1 => ?_)
  exact kk u hw H1 locs1 ls (by rw [← ht]; exact hB) hS1 h
theorem tz_callvn {y : MethodName} {bytes : ByteArray} {maxL index n f0 l0 : Nat} {ret : Option FieldType} {vs stk : List Value}  {w9 : Cond} (hw9 : w9 = tz_nest1 ∨ w9 = tz_nest2) {Q9 : tzS → Prop} (C : tz_C G E cc own nL fr lo) (d : decode cc pc = .ok (.invokestatic index, 3)) (w : tz_Ln w9 own index y bytes maxL ret n) (hM : tz_M G y bytes maxL ret f0 l0 (vs) σ (tz_Qv G Q9))  (hn : vs.length = n) (hr : f0 + 1 ≤ fr ∧ 8 + (maxL + 11) + l0 ≤ lo) (hst : (st.map fun v => v.category).sum ≤ 8) (hs : stk = vs.reverse ++ st) (kk : ∀ σ, Q9 σ → tz_V G E (pc + 3) L (st) σ) : tz_V G E pc L stk σ := by
  subst hs
  obtain ⟨⟨p, e, R, s, m, args, below, meth, c⟩, ⟨nL0, cells, slots, Q⟩⟩ := E
  obtain rfl : nL0 = nL := C.2.1
  intro H locs ls hP hS h
  obtain ⟨w1, w2, w4, w5, w6, w7, w8⟩ := w
  obtain ⟨⟨cx, cb, cm, co, ct⟩, -, cK, cok, cf, cl, cce, csl⟩ := id C
  have hN : va_Nw w9 s := by
    rcases hw9 with rfl | rfl
    · exact cK.2.1
    · exact cK.2.2.1
  rw [w1] at hN
  refine va_callv (va_runSN (As := vs.map (tz_x G.2.1)) (rest := st.map (tz_x G.2.1)) ⟨cx, cb, cm, co, ct⟩ hM ⟨va_cnB n ct (tz_good w5) rfl rfl rfl hN (ct _ w4) ⟨w6, w7, w8⟩ ⟨Nat.le_trans hr.1 cf, Nat.le_trans hr.2 cl⟩, ct _ w2, trivial⟩ ⟨tz_Pc.blind G _ σ, fun U hU hW => ⟨rfl, by rw [hU]; exact hP, cK.warm hW hU hS⟩⟩ rfl (by rw [List.length_map]; exact hn) h.1 (by show List.map (tz_x G.2.1) (vs.reverse ++ st) = _; rw [List.map_append, List.map_reverse]) (lv_room (tz_cat hst)) d ⟨cce, csl⟩) hS (fun q _ z => z) (fun q z => z) (fun u t H1 locs1 ht hvm hw hB hz1 hk1 hS1 => ?_)
  exact kk u hw H1 locs1 ls (by rw [← ht]; exact hB) hS1 h
end TZ2
theorem tz_starti {G : tzG} (hG : tz_ok G) {y : MethodName} {cc : ByteArray} {maxL fr lo : Nat} {vs : List Value} {σ : tzS} {Q9 : Int32 → tzS → Prop} (own : String) (L : List (Nat × Value)) (hy : plainName y.cls = true) (ho : y.cls = own) (hlen : (lg_sl vs).length ≤ maxL) (hL : lv_args 0 vs = L)
    (body : ∀ E : tzE, tz_C G E cc own maxL fr lo → (∀ (pc : Nat) (L : List (Nat × Value)) (r : Int32) (σ : tzS), decode cc pc = .ok (.ireturn, 1) → Q9 r σ → tz_V G E pc L [.int r] σ) → tz_V G E 0 L [] σ) : tz_M G y cc maxL (some .int) fr lo vs σ (tz_Qi G Q9) := by
  refine Met.ofW (cc := cc) (maxL := maxL) (ret := some .int) hy rfl ?_
  intro p e s m args below meth c s₁ B hml hv
  obtain ⟨rfl, hP, hK⟩ := hv
  have hx := B.exec
  have hb := B.bytes
  have hr := B.returns
  have hts := atoms_spec (ws := Cond.code y cc maxL (some .int) :: tz_TB) B.pre
  have hown : s.vm.findClass own = some m.cls := ho ▸ findClass_of_methodNamed B.named
  have hlocks := B.notSynchronized
  have hsl : ∀ vs : List Value, (lg_sl (vs.map (tz_x G.2.1))).length = (lg_sl vs).length := by
    intro vs
    induction vs with
    | nil => rfl
    | cons a l ih =>
      show (lg_sl (tz_x G.2.1 a :: l.map (tz_x G.2.1))).length = (lg_sl (a :: l)).length
      unfold lg_sl at ih ⊢
      rw [List.flatMap_cons, List.flatMap_cons, List.length_append, List.length_append, ih, tz_x_cat]
      split <;> rfl
  have hla : ∀ (vs : List Value) (n : Nat), lv_args n (vs.map (tz_x G.2.1)) = (lv_args n vs).map fun q => (q.1, tz_x G.2.1 q.2) := by
    intro vs
    induction vs with
    | nil => intro n; rfl
    | cons a l ih =>
      intro n
      show lv_args n (tz_x G.2.1 a :: l.map (tz_x G.2.1)) = _
      unfold lv_args
      rw [ih, tz_x_cat]
      rfl
  have hl := lv_entry (vs.map (tz_x G.2.1)) (n := maxL) (by rw [hsl]; exact hlen)
  rw [lg_entry_eq]
  generalize (lg_sl (vs.map (tz_x G.2.1)) ++ List.replicate (maxL - (lg_sl (vs.map (tz_x G.2.1))).length) Slot.unset).toArray = ls at hl ⊢
  rw [hla, hL] at hl
  refine body ((p, e, _, s, m, _, below, meth, c), (maxL, 0, 0, _)) ⟨⟨hx, hb, hml, hown, fun w h => hts w (List.mem_cons_of_mem _ h)⟩, rfl, hK, hG, Nat.le_refl _, Nat.le_refl _, Nat.zero_le _, Nat.zero_le _⟩ ?_ s.heap [] ls hP va_S.rf hl
  intro pc L r σ hd hq H locs ls hP hS hl
  exact W.iret (v := r) hx hb hr (fun t ht hW => ⟨⟨r, σ, rfl, hq, by unfold tz_B; rw [ht]; exact hP⟩, hS.F ht⟩) hS.2.2 hd
theorem tz_startz {G : tzG} (hG : tz_ok G) {y : MethodName} {cc : ByteArray} {maxL fr lo : Nat} {vs : List Value} {σ : tzS} {Q9 : Int32 → tzS → Prop} (own : String) (L : List (Nat × Value)) (hy : plainName y.cls = true) (ho : y.cls = own) (hlen : (lg_sl vs).length ≤ maxL) (hL : lv_args 0 vs = L)
    (body : ∀ E : tzE, tz_C G E cc own maxL fr lo → (∀ (pc : Nat) (L : List (Nat × Value)) (r : Int32) (σ : tzS), decode cc pc = .ok (.ireturn, 1) → narrow .boolean (.int r) = .int r → Q9 r σ → tz_V G E pc L [.int r] σ) → tz_V G E 0 L [] σ) : tz_M G y cc maxL (some .boolean) fr lo vs σ (tz_Qi G Q9) := by
  refine Met.ofW (cc := cc) (maxL := maxL) (ret := some .boolean) hy rfl ?_
  intro p e s m args below meth c s₁ B hml hv
  obtain ⟨rfl, hP, hK⟩ := hv
  have hx := B.exec
  have hb := B.bytes
  have hr := B.returns
  have hts := atoms_spec (ws := Cond.code y cc maxL (some .boolean) :: tz_TB) B.pre
  have hown : s.vm.findClass own = some m.cls := ho ▸ findClass_of_methodNamed B.named
  have hlocks := B.notSynchronized
  have hsl : ∀ vs : List Value, (lg_sl (vs.map (tz_x G.2.1))).length = (lg_sl vs).length := by
    intro vs
    induction vs with
    | nil => rfl
    | cons a l ih =>
      show (lg_sl (tz_x G.2.1 a :: l.map (tz_x G.2.1))).length = (lg_sl (a :: l)).length
      unfold lg_sl at ih ⊢
      rw [List.flatMap_cons, List.flatMap_cons, List.length_append, List.length_append, ih, tz_x_cat]
      split <;> rfl
  have hla : ∀ (vs : List Value) (n : Nat), lv_args n (vs.map (tz_x G.2.1)) = (lv_args n vs).map fun q => (q.1, tz_x G.2.1 q.2) := by
    intro vs
    induction vs with
    | nil => intro n; rfl
    | cons a l ih =>
      intro n
      show lv_args n (tz_x G.2.1 a :: l.map (tz_x G.2.1)) = _
      unfold lv_args
      rw [ih, tz_x_cat]
      rfl
  have hl := lv_entry (vs.map (tz_x G.2.1)) (n := maxL) (by rw [hsl]; exact hlen)
  rw [lg_entry_eq]
  generalize (lg_sl (vs.map (tz_x G.2.1)) ++ List.replicate (maxL - (lg_sl (vs.map (tz_x G.2.1))).length) Slot.unset).toArray = ls at hl ⊢
  rw [hla, hL] at hl
  refine body ((p, e, _, s, m, _, below, meth, c), (maxL, 0, 0, _)) ⟨⟨hx, hb, hml, hown, fun w h => hts w (List.mem_cons_of_mem _ h)⟩, rfl, hK, hG, Nat.le_refl _, Nat.le_refl _, Nat.zero_le _, Nat.zero_le _⟩ ?_ s.heap [] ls hP va_S.rf hl
  intro pc L r σ hd hnr hq H locs ls hP hS hl
  exact W.zret (v := r) hx hb hr hnr (fun t ht hW => ⟨⟨r, σ, rfl, hq, by unfold tz_B; rw [ht]; exact hP⟩, hS.F ht⟩) hS.2.2 hd
theorem tz_startl {G : tzG} (hG : tz_ok G) {y : MethodName} {cc : ByteArray} {maxL fr lo : Nat} {vs : List Value} {σ : tzS} {Q9 : Int64 → tzS → Prop} (own : String) (L : List (Nat × Value)) (hy : plainName y.cls = true) (ho : y.cls = own) (hlen : (lg_sl vs).length ≤ maxL) (hL : lv_args 0 vs = L)
    (body : ∀ E : tzE, tz_C G E cc own maxL fr lo → (∀ (pc : Nat) (L : List (Nat × Value)) (r : Int64) (σ : tzS), decode cc pc = .ok (.lreturn, 1) → Q9 r σ → tz_V G E pc L [.long r] σ) → tz_V G E 0 L [] σ) : tz_M G y cc maxL (some .long) fr lo vs σ (tz_Ql G Q9) := by
  refine Met.ofW (cc := cc) (maxL := maxL) (ret := some .long) hy rfl ?_
  intro p e s m args below meth c s₁ B hml hv
  obtain ⟨rfl, hP, hK⟩ := hv
  have hx := B.exec
  have hb := B.bytes
  have hr := B.returns
  have hts := atoms_spec (ws := Cond.code y cc maxL (some .long) :: tz_TB) B.pre
  have hown : s.vm.findClass own = some m.cls := ho ▸ findClass_of_methodNamed B.named
  have hlocks := B.notSynchronized
  have hsl : ∀ vs : List Value, (lg_sl (vs.map (tz_x G.2.1))).length = (lg_sl vs).length := by
    intro vs
    induction vs with
    | nil => rfl
    | cons a l ih =>
      show (lg_sl (tz_x G.2.1 a :: l.map (tz_x G.2.1))).length = (lg_sl (a :: l)).length
      unfold lg_sl at ih ⊢
      rw [List.flatMap_cons, List.flatMap_cons, List.length_append, List.length_append, ih, tz_x_cat]
      split <;> rfl
  have hla : ∀ (vs : List Value) (n : Nat), lv_args n (vs.map (tz_x G.2.1)) = (lv_args n vs).map fun q => (q.1, tz_x G.2.1 q.2) := by
    intro vs
    induction vs with
    | nil => intro n; rfl
    | cons a l ih =>
      intro n
      show lv_args n (tz_x G.2.1 a :: l.map (tz_x G.2.1)) = _
      unfold lv_args
      rw [ih, tz_x_cat]
      rfl
  have hl := lv_entry (vs.map (tz_x G.2.1)) (n := maxL) (by rw [hsl]; exact hlen)
  rw [lg_entry_eq]
  generalize (lg_sl (vs.map (tz_x G.2.1)) ++ List.replicate (maxL - (lg_sl (vs.map (tz_x G.2.1))).length) Slot.unset).toArray = ls at hl ⊢
  rw [hla, hL] at hl
  refine body ((p, e, _, s, m, _, below, meth, c), (maxL, 0, 0, _)) ⟨⟨hx, hb, hml, hown, fun w h => hts w (List.mem_cons_of_mem _ h)⟩, rfl, hK, hG, Nat.le_refl _, Nat.le_refl _, Nat.zero_le _, Nat.zero_le _⟩ ?_ s.heap [] ls hP va_S.rf hl
  intro pc L r σ hd hq H locs ls hP hS hl
  exact W.lret (v := r) hx hb hr (fun t ht hW => ⟨⟨r, σ, rfl, hq, by unfold tz_B; rw [ht]; exact hP⟩, hS.F ht⟩) hS.2.2 hd
theorem tz_startv {G : tzG} (hG : tz_ok G) {y : MethodName} {cc : ByteArray} {maxL fr lo : Nat} {vs : List Value} {σ : tzS} {Q9 : tzS → Prop} (own : String) (L : List (Nat × Value)) (hy : plainName y.cls = true) (ho : y.cls = own) (hlen : (lg_sl vs).length ≤ maxL) (hL : lv_args 0 vs = L)
    (body : ∀ E : tzE, tz_C G E cc own maxL fr lo → (∀ (pc : Nat) (L : List (Nat × Value)) (σ : tzS), decode cc pc = .ok (.return_, 1) → Q9 σ → tz_V G E pc L [] σ) → tz_V G E 0 L [] σ) : tz_M G y cc maxL (none) fr lo vs σ (tz_Qv G Q9) := by
  refine Met.ofW (cc := cc) (maxL := maxL) (ret := none) hy rfl ?_
  intro p e s m args below meth c s₁ B hml hv
  obtain ⟨rfl, hP, hK⟩ := hv
  have hx := B.exec
  have hb := B.bytes
  have hr := B.returns
  have hts := atoms_spec (ws := Cond.code y cc maxL (none) :: tz_TB) B.pre
  have hown : s.vm.findClass own = some m.cls := ho ▸ findClass_of_methodNamed B.named
  have hlocks := B.notSynchronized
  have hsl : ∀ vs : List Value, (lg_sl (vs.map (tz_x G.2.1))).length = (lg_sl vs).length := by
    intro vs
    induction vs with
    | nil => rfl
    | cons a l ih =>
      show (lg_sl (tz_x G.2.1 a :: l.map (tz_x G.2.1))).length = (lg_sl (a :: l)).length
      unfold lg_sl at ih ⊢
      rw [List.flatMap_cons, List.flatMap_cons, List.length_append, List.length_append, ih, tz_x_cat]
      split <;> rfl
  have hla : ∀ (vs : List Value) (n : Nat), lv_args n (vs.map (tz_x G.2.1)) = (lv_args n vs).map fun q => (q.1, tz_x G.2.1 q.2) := by
    intro vs
    induction vs with
    | nil => intro n; rfl
    | cons a l ih =>
      intro n
      show lv_args n (tz_x G.2.1 a :: l.map (tz_x G.2.1)) = _
      unfold lv_args
      rw [ih, tz_x_cat]
      rfl
  have hl := lv_entry (vs.map (tz_x G.2.1)) (n := maxL) (by rw [hsl]; exact hlen)
  rw [lg_entry_eq]
  generalize (lg_sl (vs.map (tz_x G.2.1)) ++ List.replicate (maxL - (lg_sl (vs.map (tz_x G.2.1))).length) Slot.unset).toArray = ls at hl ⊢
  rw [hla, hL] at hl
  refine body ((p, e, _, s, m, _, below, meth, c), (maxL, 0, 0, _)) ⟨⟨hx, hb, hml, hown, fun w h => hts w (List.mem_cons_of_mem _ h)⟩, rfl, hK, hG, Nat.le_refl _, Nat.le_refl _, Nat.zero_le _, Nat.zero_le _⟩ ?_ s.heap [] ls hP va_S.rf hl
  intro pc L σ hd hq H locs ls hP hS hl
  exact W.vret hx hb hr (fun t ht hW => ⟨⟨σ, rfl, hq, by unfold tz_B; rw [ht]; exact hP⟩, hS.F ht⟩) hS.2.2 hd
end
section
def tz_bool (v : Int32) : Prop := v = 0 ∨ v = 1
theorem tz_narz {v : Int32} (h : tz_bool v) : narrow .boolean (.int v) = .int v := by
  rcases h with rfl | rfl <;> rfl
theorem tz_inl {i : Int32} {n : Nat} (h : decide (¬ (i < 0 ∨ n ≤ i.toNatClampNeg)) = true) : vp_in i n := by
  unfold vp_in
  exact of_decide_eq_true h
theorem tz_lt {i : Int32} {n : Nat} (h : vp_in i n) : i.toNatClampNeg < n := Nat.not_le.mp fun q => h (Or.inr q)
/-- rows of an array of arrays: b .. b + n - 1 -/
theorem tz_rowlt {i : Int32} {n b : Nat} (h : vp_in i n) (hb : b + n ≤ tz_N) : b + i.toNatClampNeg < tz_N := Nat.lt_of_lt_of_le (Nat.add_lt_add_left (tz_lt h) b) hb
theorem tz_rows {i : Int32} {n b k : Nat} (h : vp_in i n) (hb : ∀ j, j < n → tz_lay (b + j) = .inr (0, k, 0)) : tz_lay (b + i.toNatClampNeg) = .inr (0, k, 0) := hb _ (tz_lt h)
def tz_loop0 (B : tzS → (tzS → Prop) → Prop) (σ : tzS) : Prop := ∃ I : Nat → tzS → Prop, (∃ n, I n σ) ∧ ∀ n σ, I n σ → B σ (fun σ' => ∃ n', n' < n ∧ I n' σ')
theorem tz_loop0_w {B : tzS → (tzS → Prop) → Prop} {σ : tzS} {V : tzS → Prop} (h : tz_loop0 B σ) (step : ∀ ag : tzS → Prop, (∀ σ, ag σ → V σ) → ∀ σ, B σ ag → V σ) : V σ := by
  obtain ⟨I, ⟨n, hI⟩, hs⟩ := h
  revert σ
  induction n using Nat.strongRecOn with
  | ind n ih =>
    intro σ hI
    refine step _ ?_ _ (hs n _ hI)
    rintro σ' ⟨n', hn, h'⟩
    exact ih n' hn h'
def tz_loop1 {A1 : Type} (B : A1 → tzS → (A1 → tzS → Prop) → Prop) (a1 : A1) (σ : tzS) : Prop := ∃ I : Nat → A1 → tzS → Prop, (∃ n, I n a1 σ) ∧ ∀ n a1 σ, I n a1 σ → B a1 σ (fun a1' σ' => ∃ n', n' < n ∧ I n' a1' σ')
theorem tz_loop1_w {A1 : Type} {B : A1 → tzS → (A1 → tzS → Prop) → Prop} {a1 : A1} {σ : tzS} {V : A1 → tzS → Prop} (h : tz_loop1 B a1 σ) (step : ∀ ag : A1 → tzS → Prop, (∀ a1 σ, ag a1 σ → V a1 σ) → ∀ a1 σ, B a1 σ ag → V a1 σ) : V a1 σ := by
  obtain ⟨I, ⟨n, hI⟩, hs⟩ := h
  revert a1 σ
  induction n using Nat.strongRecOn with
  | ind n ih =>
    intro a1 σ hI
    refine step _ ?_ _ _ (hs n _ _ hI)
    rintro a1' σ' ⟨n', hn, h'⟩
    exact ih n' hn h'
def tz_loop2 {A1 A2 : Type} (B : A1 → A2 → tzS → (A1 → A2 → tzS → Prop) → Prop) (a1 : A1) (a2 : A2) (σ : tzS) : Prop := ∃ I : Nat → A1 → A2 → tzS → Prop, (∃ n, I n a1 a2 σ) ∧ ∀ n a1 a2 σ, I n a1 a2 σ → B a1 a2 σ (fun a1' a2' σ' => ∃ n', n' < n ∧ I n' a1' a2' σ')
theorem tz_loop2_w {A1 A2 : Type} {B : A1 → A2 → tzS → (A1 → A2 → tzS → Prop) → Prop} {a1 : A1} {a2 : A2} {σ : tzS} {V : A1 → A2 → tzS → Prop} (h : tz_loop2 B a1 a2 σ) (step : ∀ ag : A1 → A2 → tzS → Prop, (∀ a1 a2 σ, ag a1 a2 σ → V a1 a2 σ) → ∀ a1 a2 σ, B a1 a2 σ ag → V a1 a2 σ) : V a1 a2 σ := by
  obtain ⟨I, ⟨n, hI⟩, hs⟩ := h
  revert a1 a2 σ
  induction n using Nat.strongRecOn with
  | ind n ih =>
    intro a1 a2 σ hI
    refine step _ ?_ _ _ _ (hs n _ _ _ hI)
    rintro a1' a2' σ' ⟨n', hn, h'⟩
    exact ih n' hn h'
def tz_loop3 {A1 A2 A3 : Type} (B : A1 → A2 → A3 → tzS → (A1 → A2 → A3 → tzS → Prop) → Prop) (a1 : A1) (a2 : A2) (a3 : A3) (σ : tzS) : Prop := ∃ I : Nat → A1 → A2 → A3 → tzS → Prop, (∃ n, I n a1 a2 a3 σ) ∧ ∀ n a1 a2 a3 σ, I n a1 a2 a3 σ → B a1 a2 a3 σ (fun a1' a2' a3' σ' => ∃ n', n' < n ∧ I n' a1' a2' a3' σ')
theorem tz_loop3_w {A1 A2 A3 : Type} {B : A1 → A2 → A3 → tzS → (A1 → A2 → A3 → tzS → Prop) → Prop} {a1 : A1} {a2 : A2} {a3 : A3} {σ : tzS} {V : A1 → A2 → A3 → tzS → Prop} (h : tz_loop3 B a1 a2 a3 σ) (step : ∀ ag : A1 → A2 → A3 → tzS → Prop, (∀ a1 a2 a3 σ, ag a1 a2 a3 σ → V a1 a2 a3 σ) → ∀ a1 a2 a3 σ, B a1 a2 a3 σ ag → V a1 a2 a3 σ) : V a1 a2 a3 σ := by
  obtain ⟨I, ⟨n, hI⟩, hs⟩ := h
  revert a1 a2 a3 σ
  induction n using Nat.strongRecOn with
  | ind n ih =>
    intro a1 a2 a3 σ hI
    refine step _ ?_ _ _ _ _ (hs n _ _ _ _ hI)
    rintro a1' a2' a3' σ' ⟨n', hn, h'⟩
    exact ih n' hn h'
def tz_loop4 {A1 A2 A3 A4 : Type} (B : A1 → A2 → A3 → A4 → tzS → (A1 → A2 → A3 → A4 → tzS → Prop) → Prop) (a1 : A1) (a2 : A2) (a3 : A3) (a4 : A4) (σ : tzS) : Prop := ∃ I : Nat → A1 → A2 → A3 → A4 → tzS → Prop, (∃ n, I n a1 a2 a3 a4 σ) ∧ ∀ n a1 a2 a3 a4 σ, I n a1 a2 a3 a4 σ → B a1 a2 a3 a4 σ (fun a1' a2' a3' a4' σ' => ∃ n', n' < n ∧ I n' a1' a2' a3' a4' σ')
theorem tz_loop4_w {A1 A2 A3 A4 : Type} {B : A1 → A2 → A3 → A4 → tzS → (A1 → A2 → A3 → A4 → tzS → Prop) → Prop} {a1 : A1} {a2 : A2} {a3 : A3} {a4 : A4} {σ : tzS} {V : A1 → A2 → A3 → A4 → tzS → Prop} (h : tz_loop4 B a1 a2 a3 a4 σ) (step : ∀ ag : A1 → A2 → A3 → A4 → tzS → Prop, (∀ a1 a2 a3 a4 σ, ag a1 a2 a3 a4 σ → V a1 a2 a3 a4 σ) → ∀ a1 a2 a3 a4 σ, B a1 a2 a3 a4 σ ag → V a1 a2 a3 a4 σ) : V a1 a2 a3 a4 σ := by
  obtain ⟨I, ⟨n, hI⟩, hs⟩ := h
  revert a1 a2 a3 a4 σ
  induction n using Nat.strongRecOn with
  | ind n ih =>
    intro a1 a2 a3 a4 σ hI
    refine step _ ?_ _ _ _ _ _ (hs n _ _ _ _ _ hI)
    rintro a1' a2' a3' a4' σ' ⟨n', hn, h'⟩
    exact ih n' hn h'
def tz_loop5 {A1 A2 A3 A4 A5 : Type} (B : A1 → A2 → A3 → A4 → A5 → tzS → (A1 → A2 → A3 → A4 → A5 → tzS → Prop) → Prop) (a1 : A1) (a2 : A2) (a3 : A3) (a4 : A4) (a5 : A5) (σ : tzS) : Prop := ∃ I : Nat → A1 → A2 → A3 → A4 → A5 → tzS → Prop, (∃ n, I n a1 a2 a3 a4 a5 σ) ∧ ∀ n a1 a2 a3 a4 a5 σ, I n a1 a2 a3 a4 a5 σ → B a1 a2 a3 a4 a5 σ (fun a1' a2' a3' a4' a5' σ' => ∃ n', n' < n ∧ I n' a1' a2' a3' a4' a5' σ')
theorem tz_loop5_w {A1 A2 A3 A4 A5 : Type} {B : A1 → A2 → A3 → A4 → A5 → tzS → (A1 → A2 → A3 → A4 → A5 → tzS → Prop) → Prop} {a1 : A1} {a2 : A2} {a3 : A3} {a4 : A4} {a5 : A5} {σ : tzS} {V : A1 → A2 → A3 → A4 → A5 → tzS → Prop} (h : tz_loop5 B a1 a2 a3 a4 a5 σ) (step : ∀ ag : A1 → A2 → A3 → A4 → A5 → tzS → Prop, (∀ a1 a2 a3 a4 a5 σ, ag a1 a2 a3 a4 a5 σ → V a1 a2 a3 a4 a5 σ) → ∀ a1 a2 a3 a4 a5 σ, B a1 a2 a3 a4 a5 σ ag → V a1 a2 a3 a4 a5 σ) : V a1 a2 a3 a4 a5 σ := by
  obtain ⟨I, ⟨n, hI⟩, hs⟩ := h
  revert a1 a2 a3 a4 a5 σ
  induction n using Nat.strongRecOn with
  | ind n ih =>
    intro a1 a2 a3 a4 a5 σ hI
    refine step _ ?_ _ _ _ _ _ _ (hs n _ _ _ _ _ _ hI)
    rintro a1' a2' a3' a4' a5' σ' ⟨n', hn, h'⟩
    exact ih n' hn h'
section TZ3
variable {G : tzG} {E : tzE} {cc : ByteArray} {own : String} {nL fr lo pc : Nat} {L : List (Nat × Value)} {st : List Value} {σ : tzS}
theorem tz_istore_n_k {i : Fin 4} (j : Nat) {x : Int32} (L0 : List (Nat × Value)) (C : tz_C G E cc own nL fr lo) (d : decode cc pc = .ok (.istore_n i, 1)) (hi : (i : Nat) = j) (hn : j < nL) (hl : L.filter (fun q => !(q.1 == j) && !(q.1 + 1 == j && q.2.category == 2)) = L0) (kk : tz_V G E (pc + 1) ((j, .int x) :: L0) st σ) : tz_V G E pc L (.int x :: st) σ := tz_istore_n j L0 C d hi hn hl (P := fun y => y = x) (fun _ h => h) (fun _ h => h ▸ kk)
theorem tz_istore_k {j : Nat} {x : Int32} (L0 : List (Nat × Value)) (C : tz_C G E cc own nL fr lo) (d : decode cc pc = .ok (.istore j, 2))  (hn : j < nL) (hl : L.filter (fun q => !(q.1 == j) && !(q.1 + 1 == j && q.2.category == 2)) = L0) (kk : tz_V G E (pc + 2) ((j, .int x) :: L0) st σ) : tz_V G E pc L (.int x :: st) σ := tz_istore  L0 C d  hn hl (P := fun y => y = x) (fun _ h => h) (fun _ h => h ▸ kk)
theorem tz_lstore_n_k {i : Fin 4} (j : Nat) {x : Int64} (L0 : List (Nat × Value)) (C : tz_C G E cc own nL fr lo) (d : decode cc pc = .ok (.lstore_n i, 1)) (hi : (i : Nat) = j) (hn : j + 1 < nL) (hl : L.filter (fun q => !(q.1 == j) && (!(q.1 == j + 1) && !(q.1 + 1 == j && q.2.category == 2))) = L0) (kk : tz_V G E (pc + 1) ((j, .long x) :: L0) st σ) : tz_V G E pc L (.long x :: st) σ := tz_lstore_n j L0 C d hi hn hl (P := fun y => y = x) (fun _ h => h) (fun _ h => h ▸ kk)
theorem tz_lstore_k {j : Nat} {x : Int64} (L0 : List (Nat × Value)) (C : tz_C G E cc own nL fr lo) (d : decode cc pc = .ok (.lstore j, 2))  (hn : j + 1 < nL) (hl : L.filter (fun q => !(q.1 == j) && (!(q.1 == j + 1) && !(q.1 + 1 == j && q.2.category == 2))) = L0) (kk : tz_V G E (pc + 2) ((j, .long x) :: L0) st σ) : tz_V G E pc L (.long x :: st) σ := tz_lstore  L0 C d  hn hl (P := fun y => y = x) (fun _ h => h) (fun _ h => h ▸ kk)
theorem tz_iald_c {k n b : Nat} {i : Int32} (j : Nat) (C : tz_C G E cc own nL fr lo) (d : decode cc pc = .ok (.iaload, 1)) (hk : k < tz_N) (hl : tz_lay k = .inr (0, n, b)) (hin : vp_in i n) (hj : i.toNatClampNeg = j) (kk : tz_V G E (pc + 1) L (.int (σ.1 k j) :: st) σ) : tz_V G E pc L (.int i :: .ref k :: st) σ := tz_iald C d hk hl hin (hj.symm ▸ kk)
theorem tz_zald_c {k n b : Nat} {i : Int32} (j : Nat) (C : tz_C G E cc own nL fr lo) (d : decode cc pc = .ok (.baload, 1)) (hk : k < tz_N) (hl : tz_lay k = .inr (1, n, b)) (hin : vp_in i n) (hj : i.toNatClampNeg = j) (kk : tz_V G E (pc + 1) L (.int (σ.1 k j) :: st) σ) : tz_V G E pc L (.int i :: .ref k :: st) σ := tz_zald C d hk hl hin (hj.symm ▸ kk)
theorem tz_lald_c {k n b : Nat} {i : Int32} (j : Nat) (C : tz_C G E cc own nL fr lo) (d : decode cc pc = .ok (.laload, 1)) (hk : k < tz_N) (hl : tz_lay k = .inr (2, n, b)) (hin : vp_in i n) (hj : i.toNatClampNeg = j) (kk : tz_V G E (pc + 1) L (.long (σ.2 k j) :: st) σ) : tz_V G E pc L (.int i :: .ref k :: st) σ := tz_lald C d hk hl hin (hj.symm ▸ kk)
theorem tz_aald_c {k n b : Nat} {i : Int32} (j : Nat) (C : tz_C G E cc own nL fr lo) (d : decode cc pc = .ok (.aaload, 1)) (hk : k < tz_N) (hl : tz_lay k = .inr (3, n, b)) (hin : vp_in i n) (hj : i.toNatClampNeg = j) (kk : tz_V G E (pc + 1) L (.ref (b + j) :: st) σ) : tz_V G E pc L (.int i :: .ref k :: st) σ := tz_aald C d hk hl hin (hj.symm ▸ kk)
theorem tz_iast_c {k n b : Nat} {i : Int32} {v : Int32} {P : tzS → Prop} (j : Nat) (C : tz_C G E cc own nL fr lo) (d : decode cc pc = .ok (.iastore, 1)) (hk : k < tz_N) (hl : tz_lay k = .inr (0, n, b))  (hin : vp_in i n) (hj : i.toNatClampNeg = j) (hp : ∀ σ', σ' = tz_st σ k j v → P σ') (kk : ∀ σ, P σ → tz_V G E (pc + 1) L st σ) : tz_V G E pc L (.int v :: .int i :: .ref k :: st) σ := tz_iast C d hk hl  ⟨hin, fun σ' h => hp σ' (hj ▸ h)⟩ kk
theorem tz_zast_c {k n b : Nat} {i : Int32} {v : Int32} {P : tzS → Prop} (j : Nat) (C : tz_C G E cc own nL fr lo) (d : decode cc pc = .ok (.bastore, 1)) (hk : k < tz_N) (hl : tz_lay k = .inr (1, n, b)) (hv : vp_nar .boolean v = v) (hin : vp_in i n) (hj : i.toNatClampNeg = j) (hp : ∀ σ', σ' = tz_st σ k j v → P σ') (kk : ∀ σ, P σ → tz_V G E (pc + 1) L st σ) : tz_V G E pc L (.int v :: .int i :: .ref k :: st) σ := tz_zast C d hk hl hv ⟨hin, fun σ' h => hp σ' (hj ▸ h)⟩ kk
theorem tz_last_c {k n b : Nat} {i : Int32} {v : Int64} {P : tzS → Prop} (j : Nat) (C : tz_C G E cc own nL fr lo) (d : decode cc pc = .ok (.lastore, 1)) (hk : k < tz_N) (hl : tz_lay k = .inr (2, n, b))  (hin : vp_in i n) (hj : i.toNatClampNeg = j) (hp : ∀ σ', σ' = tz_sl σ k j v → P σ') (kk : ∀ σ, P σ → tz_V G E (pc + 1) L st σ) : tz_V G E pc L (.long v :: .int i :: .ref k :: st) σ := tz_last C d hk hl  ⟨hin, fun σ' h => hp σ' (hj ▸ h)⟩ kk
theorem tz_swc {dflt lw hw : Int} {offs : Array Int} {len : Nat} {x : Int32} (v : Int32) (off : Int) (tgt : Nat) {P N : Prop} (C : tz_C G E cc own nL fr lo) (d : decode cc pc = .ok (.tableswitch dflt lw hw offs, len)) (h1 : ¬ v.toInt < lw) (h2 : ¬ hw < v.toInt) (ho : offs[(v.toInt - lw).toNat]? = some off) (ht : (pc : Int) + off = (tgt : Int)) (hp : (x = v → P) ∧ N) (kt : P → tz_V G E tgt L st σ) (kf : ¬ x = v → N → tz_V G E pc L (.int x :: st) σ) : tz_V G E pc L (.int x :: st) σ := by
  by_cases e : x = v
  · have k := kt (hp.1 e)
    subst e
    exact tz_tabIn off tgt C d h1 h2 ho ht k
  · exact kf e hp.2
end TZ3
theorem tz_out2 {x : Int32} (e0 : ¬ x = 0) (e1 : ¬ x = 1) (e2 : ¬ x = 2) : x.toInt < 0 ∨ 2 < x.toInt := by
  have f0 : x.toInt ≠ 0 := fun q => e0 (Int32.toInt_inj.mp q)
  have f1 : x.toInt ≠ 1 := fun q => e1 (Int32.toInt_inj.mp q)
  have f2 : x.toInt ≠ 2 := fun q => e2 (Int32.toInt_inj.mp q)
  omega
theorem tz_out3 {x : Int32} (e0 : ¬ x = 0) (e1 : ¬ x = 1) (e2 : ¬ x = 2) (e3 : ¬ x = 3) : x.toInt < 0 ∨ 3 < x.toInt := by
  have f0 : x.toInt ≠ 0 := fun q => e0 (Int32.toInt_inj.mp q)
  have f1 : x.toInt ≠ 1 := fun q => e1 (Int32.toInt_inj.mp q)
  have f2 : x.toInt ≠ 2 := fun q => e2 (Int32.toInt_inj.mp q)
  have f3 : x.toInt ≠ 3 := fun q => e3 (Int32.toInt_inj.mp q)
  omega
theorem tz_out8 {x : Int32} (e0 : ¬ x = 0) (e1 : ¬ x = 1) (e2 : ¬ x = 2) (e3 : ¬ x = 3) (e4 : ¬ x = 4) (e5 : ¬ x = 5) (e6 : ¬ x = 6) (e7 : ¬ x = 7) (e8 : ¬ x = 8) : x.toInt < 0 ∨ 8 < x.toInt := by
  have f0 : x.toInt ≠ 0 := fun q => e0 (Int32.toInt_inj.mp q)
  have f1 : x.toInt ≠ 1 := fun q => e1 (Int32.toInt_inj.mp q)
  have f2 : x.toInt ≠ 2 := fun q => e2 (Int32.toInt_inj.mp q)
  have f3 : x.toInt ≠ 3 := fun q => e3 (Int32.toInt_inj.mp q)
  have f4 : x.toInt ≠ 4 := fun q => e4 (Int32.toInt_inj.mp q)
  have f5 : x.toInt ≠ 5 := fun q => e5 (Int32.toInt_inj.mp q)
  have f6 : x.toInt ≠ 6 := fun q => e6 (Int32.toInt_inj.mp q)
  have f7 : x.toInt ≠ 7 := fun q => e7 (Int32.toInt_inj.mp q)
  have f8 : x.toInt ≠ 8 := fun q => e8 (Int32.toInt_inj.mp q)
  omega
end
section
theorem tz_ins {ws : List Cond} (ps : List Nat) (hp : ws = ps.filterMap (fun i => lw_tbl[i]?)) (h : ws.all goodWord = true) : ∀ w ∈ ws, w ∈ tz_TB := by
  intro w hw
  have h1 := List.all_eq_true.mp h w hw
  rw [hp] at hw
  obtain ⟨i, -, hi⟩ := List.mem_filterMap.mp hw
  exact tz_in i hi h1
theorem uw_X0 : ∀ w ∈ u_ws RX0 TX0 5, w ∈ tz_TB := tz_ins [258, 260, 262, 264, 266] (by decide +kernel) (by decide +kernel)
theorem uw_X1 : ∀ w ∈ u_ws RX1 TX1 5, w ∈ tz_TB := tz_ins [233, 235, 237, 239, 241] (by decide +kernel) (by decide +kernel)
theorem uw_X2 : ∀ w ∈ u_ws RX2 TX2 4, w ∈ tz_TB := tz_ins [299, 301, 303, 305] (by decide +kernel) (by decide +kernel)
theorem uw_X3 : ∀ w ∈ u_ws RX3 TX3 7, w ∈ tz_TB := tz_ins [134, 136, 138, 140, 142, 144, 146] (by decide +kernel) (by decide +kernel)
theorem uw_X4 : ∀ w ∈ u_ws RX4 TX4 3, w ∈ tz_TB := tz_ins [320, 322, 324] (by decide +kernel) (by decide +kernel)
theorem uw_X5 : ∀ w ∈ u_ws RX5 TX5 2, w ∈ tz_TB := tz_ins [278, 280] (by decide +kernel) (by decide +kernel)
theorem uw_X6 : ∀ w ∈ u_ws RX6 TX6 12, w ∈ tz_TB := tz_ins [191, 193, 195, 197, 199, 201, 203, 205, 207, 209, 211, 213] (by decide +kernel) (by decide +kernel)
theorem uw_X7 : ∀ w ∈ u_ws RX7 TX7 3, w ∈ tz_TB := tz_ins [339, 341, 343] (by decide +kernel) (by decide +kernel)
theorem uw_X8 : ∀ w ∈ u_ws RX8 TX8 2, w ∈ tz_TB := tz_ins [112, 114] (by decide +kernel) (by decide +kernel)
theorem uw_X9 : ∀ w ∈ u_ws RX9 TX9 17, w ∈ tz_TB := tz_ins [363, 365, 367, 369, 371, 373, 375, 377, 379, 381, 383, 385, 387, 389, 391, 393, 395] (by decide +kernel) (by decide +kernel)
theorem uw_X10 : ∀ w ∈ u_ws RX10 TX10 37, w ∈ tz_TB := tz_ins [863, 865, 867, 869, 871, 873, 875, 877, 879, 881, 883, 885, 887, 889, 891, 893, 895, 897, 899, 901, 903, 905, 907, 909, 911, 913, 915, 917, 919, 921, 923, 925, 927, 929, 931, 933, 935] (by decide +kernel) (by decide +kernel)
theorem fl_RX0_20 : tz_Fl RX0 20 6 0 := ⟨(RX6, TX6, 12), rfl, by decide, tz_in 159 (by decide +kernel) rfl, uw_X6⟩
theorem fl_RX0_26 : tz_Fl RX0 26 6 2 := ⟨(RX6, TX6, 12), rfl, by decide, tz_in 166 (by decide +kernel) rfl, uw_X6⟩
theorem lk_RX0_29 : tz_Lv RX0 29 yX0_startBlock cX0_startBlock 3 (none) 1 := ⟨tz_in 610 (by decide +kernel) rfl, tz_in 612 (by decide +kernel) rfl, tz_in 18 (by decide +kernel) rfl, tz_in 82 (by decide +kernel) rfl, tz_in 613 (by decide +kernel) rfl, by decide +kernel, by decide +kernel, by decide +kernel⟩
theorem fp_RX0_41 : tz_Fp RX0 41 0 2 .int := ⟨(RX0, TX0, 5), rfl, by decide, tz_in 255 (by decide +kernel) rfl, uw_X0, rfl, by decide +kernel, ⟨tyX0, tyX0_ok⟩, nmX0⟩
theorem fp_RX0_44 : tz_Fp RX0 44 0 3 .int := ⟨(RX0, TX0, 5), rfl, by decide, tz_in 256 (by decide +kernel) rfl, uw_X0, rfl, by decide +kernel, ⟨tyX0, tyX0_ok⟩, nmX0⟩
theorem fp_RX0_47 : tz_Fp RX0 47 0 4 .int := ⟨(RX0, TX0, 5), rfl, by decide, tz_in 257 (by decide +kernel) rfl, uw_X0, rfl, by decide +kernel, ⟨tyX0, tyX0_ok⟩, nmX0⟩
theorem fl_RX0_16 : tz_Fl RX0 16 0 1 := ⟨(RX0, TX0, 5), rfl, by decide, tz_in 254 (by decide +kernel) rfl, uw_X0⟩
theorem lk_RX0_33 : tz_Lv RX0 33 yX0_addSentence cX0_addSentence 5 (none) 2 := ⟨tz_in 614 (by decide +kernel) rfl, tz_in 616 (by decide +kernel) rfl, tz_in 19 (by decide +kernel) rfl, tz_in 82 (by decide +kernel) rfl, tz_in 617 (by decide +kernel) rfl, by decide +kernel, by decide +kernel, by decide +kernel⟩
theorem fl_RX0_50 : tz_Fl RX0 50 6 4 := ⟨(RX6, TX6, 12), rfl, by decide, tz_in 172 (by decide +kernel) rfl, uw_X6⟩
theorem fl_RX0_53 : tz_Fl RX0 53 6 5 := ⟨(RX6, TX6, 12), rfl, by decide, tz_in 175 (by decide +kernel) rfl, uw_X6⟩
theorem fl_RX0_41 : tz_Fl RX0 41 0 2 := ⟨(RX0, TX0, 5), rfl, by decide, tz_in 255 (by decide +kernel) rfl, uw_X0⟩
theorem fl_RX0_47 : tz_Fl RX0 47 0 4 := ⟨(RX0, TX0, 5), rfl, by decide, tz_in 257 (by decide +kernel) rfl, uw_X0⟩
theorem fl_RX0_44 : tz_Fl RX0 44 0 3 := ⟨(RX0, TX0, 5), rfl, by decide, tz_in 256 (by decide +kernel) rfl, uw_X0⟩
theorem fl_RX0_11 : tz_Fl RX0 11 0 0 := ⟨(RX0, TX0, 5), rfl, by decide, tz_in 251 (by decide +kernel) rfl, uw_X0⟩
theorem lk_RX0_37 : tz_Lv RX0 37 yX0_price cX0_price 3 (some .int) 1 := ⟨tz_in 618 (by decide +kernel) rfl, tz_in 620 (by decide +kernel) rfl, tz_in 20 (by decide +kernel) rfl, tz_in 82 (by decide +kernel) rfl, tz_in 621 (by decide +kernel) rfl, by decide +kernel, by decide +kernel, by decide +kernel⟩
theorem fp_RX1_9 : tz_Fp RX1 9 1 0 .int := ⟨(RX1, TX1, 5), rfl, by decide, tz_in 223 (by decide +kernel) rfl, uw_X1, rfl, by decide +kernel, ⟨tyX1, tyX1_ok⟩, nmX1⟩
theorem fl_RX1_28 : tz_Fl RX1 28 6 2 := ⟨(RX6, TX6, 12), rfl, by decide, tz_in 165 (by decide +kernel) rfl, uw_X6⟩
theorem lk_RX1_33 : tz_Lv RX1 33 yX1_linkStem cX1_linkStem 9 (none) 3 := ⟨tz_in 561 (by decide +kernel) rfl, tz_in 563 (by decide +kernel) rfl, tz_in 13 (by decide +kernel) rfl, tz_in 81 (by decide +kernel) rfl, tz_in 564 (by decide +kernel) rfl, by decide +kernel, by decide +kernel, by decide +kernel⟩
theorem fl_RX1_37 : tz_Fl RX1 37 6 9 := ⟨(RX6, TX6, 12), rfl, by decide, tz_in 185 (by decide +kernel) rfl, uw_X6⟩
theorem fl_RX1_38 : tz_Fl RX1 38 6 10 := ⟨(RX6, TX6, 12), rfl, by decide, tz_in 188 (by decide +kernel) rfl, uw_X6⟩
theorem lk_RX1_43 : tz_Lv RX1 43 yX1_keep cX1_keep 5 (none) 4 := ⟨tz_in 565 (by decide +kernel) rfl, tz_in 567 (by decide +kernel) rfl, tz_in 14 (by decide +kernel) rfl, tz_in 81 (by decide +kernel) rfl, tz_in 568 (by decide +kernel) rfl, by decide +kernel, by decide +kernel, by decide +kernel⟩
theorem fl_RX1_9 : tz_Fl RX1 9 1 0 := ⟨(RX1, TX1, 5), rfl, by decide, tz_in 223 (by decide +kernel) rfl, uw_X1⟩
theorem fl_RX1_15 : tz_Fl RX1 15 1 1 := ⟨(RX1, TX1, 5), rfl, by decide, tz_in 225 (by decide +kernel) rfl, uw_X1⟩
theorem fl_RX1_19 : tz_Fl RX1 19 1 2 := ⟨(RX1, TX1, 5), rfl, by decide, tz_in 227 (by decide +kernel) rfl, uw_X1⟩
theorem fl_RX1_22 : tz_Fl RX1 22 1 3 := ⟨(RX1, TX1, 5), rfl, by decide, tz_in 229 (by decide +kernel) rfl, uw_X1⟩
theorem fl_RX1_25 : tz_Fl RX1 25 1 4 := ⟨(RX1, TX1, 5), rfl, by decide, tz_in 231 (by decide +kernel) rfl, uw_X1⟩
theorem fl_RX1_39 : tz_Fl RX1 39 6 6 := ⟨(RX6, TX6, 12), rfl, by decide, tz_in 178 (by decide +kernel) rfl, uw_X6⟩
theorem lk_RX1_47 : tz_Lv RX1 47 yX1_goesOver cX1_goesOver 3 (some .boolean) 2 := ⟨tz_in 589 (by decide +kernel) rfl, tz_in 591 (by decide +kernel) rfl, tz_in 16 (by decide +kernel) rfl, tz_in 81 (by decide +kernel) rfl, tz_in 592 (by decide +kernel) rfl, by decide +kernel, by decide +kernel, by decide +kernel⟩
theorem lk_RX1_51 : tz_Lv RX1 51 yX1_weightOf cX1_weightOf 2 (some .int) 1 := ⟨tz_in 597 (by decide +kernel) rfl, tz_in 574 (by decide +kernel) rfl, tz_in 575 (by decide +kernel) rfl, tz_in 81 (by decide +kernel) rfl, tz_in 576 (by decide +kernel) rfl, by decide +kernel, by decide +kernel, by decide +kernel⟩
theorem fl_RX2_32 : tz_Fl RX2 32 6 0 := ⟨(RX6, TX6, 12), rfl, by decide, tz_in 160 (by decide +kernel) rfl, uw_X6⟩
theorem fl_RX2_21 : tz_Fl RX2 21 2 2 := ⟨(RX2, TX2, 4), rfl, by decide, tz_in 297 (by decide +kernel) rfl, uw_X2⟩
theorem lk_RX2_38 : tz_Lv RX2 38 yX0_fill cX0_fill 8 (none) 4 := ⟨tz_in 669 (by decide +kernel) rfl, tz_in 607 (by decide +kernel) rfl, tz_in 608 (by decide +kernel) rfl, tz_in 82 (by decide +kernel) rfl, tz_in 609 (by decide +kernel) rfl, by decide +kernel, by decide +kernel, by decide +kernel⟩
theorem fl_RX2_28 : tz_Fl RX2 28 2 3 := ⟨(RX2, TX2, 4), rfl, by decide, tz_in 298 (by decide +kernel) rfl, uw_X2⟩
theorem fl_RX2_42 : tz_Fl RX2 42 0 0 := ⟨(RX0, TX0, 5), rfl, by decide, tz_in 252 (by decide +kernel) rfl, uw_X0⟩
theorem lk_RX2_46 : tz_Lv RX2 46 yX5_fill cX5_fill 5 (none) 2 := ⟨tz_in 670 (by decide +kernel) rfl, tz_in 623 (by decide +kernel) rfl, tz_in 624 (by decide +kernel) rfl, tz_in 83 (by decide +kernel) rfl, tz_in 625 (by decide +kernel) rfl, by decide +kernel, by decide +kernel, by decide +kernel⟩
theorem lk_RX5_19 : tz_Lv RX5 19 yX5_chooseLastBlock cX5_chooseLastBlock 8 (none) 3 := ⟨tz_in 626 (by decide +kernel) rfl, tz_in 628 (by decide +kernel) rfl, tz_in 21 (by decide +kernel) rfl, tz_in 83 (by decide +kernel) rfl, tz_in 629 (by decide +kernel) rfl, by decide +kernel, by decide +kernel, by decide +kernel⟩
theorem fl_RX5_11 : tz_Fl RX5 11 5 0 := ⟨(RX5, TX5, 2), rfl, by decide, tz_in 276 (by decide +kernel) rfl, uw_X5⟩
theorem fl_RX5_16 : tz_Fl RX5 16 5 1 := ⟨(RX5, TX5, 2), rfl, by decide, tz_in 277 (by decide +kernel) rfl, uw_X5⟩
theorem lk_RX2_49 : tz_Lv RX2 49 yX5_totalOf cX5_totalOf 3 (some .int) 2 := ⟨tz_in 671 (by decide +kernel) rfl, tz_in 638 (by decide +kernel) rfl, tz_in 639 (by decide +kernel) rfl, tz_in 83 (by decide +kernel) rfl, tz_in 640 (by decide +kernel) rfl, by decide +kernel, by decide +kernel, by decide +kernel⟩
theorem lk_RX2_53 : tz_Lv RX2 53 yX2_weigh cX2_weigh 4 (none) 3 := ⟨tz_in 672 (by decide +kernel) rfl, tz_in 674 (by decide +kernel) rfl, tz_in 23 (by decide +kernel) rfl, tz_in 84 (by decide +kernel) rfl, tz_in 675 (by decide +kernel) rfl, by decide +kernel, by decide +kernel, by decide +kernel⟩
theorem fl_RX2_9 : tz_Fl RX2 9 2 0 := ⟨(RX2, TX2, 4), rfl, by decide, tz_in 293 (by decide +kernel) rfl, uw_X2⟩
theorem fl_RX2_15 : tz_Fl RX2 15 2 1 := ⟨(RX2, TX2, 4), rfl, by decide, tz_in 295 (by decide +kernel) rfl, uw_X2⟩
theorem fp_RX3_21 : tz_Fp RX3 21 3 3 .int := ⟨(RX3, TX3, 7), rfl, by decide, tz_in 130 (by decide +kernel) rfl, uw_X3, rfl, by decide +kernel, ⟨tyX3, tyX3_ok⟩, nmX3⟩
theorem fp_RX3_24 : tz_Fp RX3 24 3 4 .int := ⟨(RX3, TX3, 7), rfl, by decide, tz_in 131 (by decide +kernel) rfl, uw_X3, rfl, by decide +kernel, ⟨tyX3, tyX3_ok⟩, nmX3⟩
theorem fp_RX3_27 : tz_Fp RX3 27 3 5 .int := ⟨(RX3, TX3, 7), rfl, by decide, tz_in 132 (by decide +kernel) rfl, uw_X3, rfl, by decide +kernel, ⟨tyX3, tyX3_ok⟩, nmX3⟩
theorem fp_RX3_30 : tz_Fp RX3 30 3 6 .boolean := ⟨(RX3, TX3, 7), rfl, by decide, tz_in 133 (by decide +kernel) rfl, uw_X3, rfl, by decide +kernel, ⟨tyX3, tyX3_ok⟩, nmX3⟩
theorem fl_RX3_34 : tz_Fl RX3 34 8 1 := ⟨(RX8, TX8, 2), rfl, by decide, tz_in 110 (by decide +kernel) rfl, uw_X8⟩
theorem fl_RX3_24 : tz_Fl RX3 24 3 4 := ⟨(RX3, TX3, 7), rfl, by decide, tz_in 131 (by decide +kernel) rfl, uw_X3⟩
theorem lk_RX3_47 : tz_Lv RX3 47 yX3_keep cX3_keep 4 (none) 3 := ⟨tz_in 444 (by decide +kernel) rfl, tz_in 446 (by decide +kernel) rfl, tz_in 4 (by decide +kernel) rfl, tz_in 79 (by decide +kernel) rfl, tz_in 447 (by decide +kernel) rfl, by decide +kernel, by decide +kernel, by decide +kernel⟩
theorem fp_RX3_9 : tz_Fp RX3 9 3 0 .int := ⟨(RX3, TX3, 7), rfl, by decide, tz_in 124 (by decide +kernel) rfl, uw_X3, rfl, by decide +kernel, ⟨tyX3, tyX3_ok⟩, nmX3⟩
theorem fp_RX3_15 : tz_Fp RX3 15 3 1 .int := ⟨(RX3, TX3, 7), rfl, by decide, tz_in 126 (by decide +kernel) rfl, uw_X3, rfl, by decide +kernel, ⟨tyX3, tyX3_ok⟩, nmX3⟩
theorem fp_RX3_18 : tz_Fp RX3 18 3 2 .int := ⟨(RX3, TX3, 7), rfl, by decide, tz_in 128 (by decide +kernel) rfl, uw_X3, rfl, by decide +kernel, ⟨tyX3, tyX3_ok⟩, nmX3⟩
theorem fl_RX3_27 : tz_Fl RX3 27 3 5 := ⟨(RX3, TX3, 7), rfl, by decide, tz_in 132 (by decide +kernel) rfl, uw_X3⟩
theorem fl_RX3_39 : tz_Fl RX3 39 8 0 := ⟨(RX8, TX8, 2), rfl, by decide, tz_in 106 (by decide +kernel) rfl, uw_X8⟩
theorem lk_RX3_43 : tz_Lv RX3 43 yX3_reasonAgainst cX3_reasonAgainst 2 (some .int) 1 := ⟨tz_in 433 (by decide +kernel) rfl, tz_in 435 (by decide +kernel) rfl, tz_in 2 (by decide +kernel) rfl, tz_in 79 (by decide +kernel) rfl, tz_in 436 (by decide +kernel) rfl, by decide +kernel, by decide +kernel, by decide +kernel⟩
theorem lk_RX3_55 : tz_Ln tz_nest2 RX3 55 yX9_isLetter cX9_isLetter 1 (some .boolean) 1 := ⟨rfl, tz_in 438 (by decide +kernel) rfl, tz_in 77 (by decide +kernel) rfl, tz_in 439 (by decide +kernel) rfl, by decide +kernel, by decide +kernel, by decide +kernel⟩
theorem fl_RX3_21 : tz_Fl RX3 21 3 3 := ⟨(RX3, TX3, 7), rfl, by decide, tz_in 130 (by decide +kernel) rfl, uw_X3⟩
theorem fl_RX3_30 : tz_Fl RX3 30 3 6 := ⟨(RX3, TX3, 7), rfl, by decide, tz_in 133 (by decide +kernel) rfl, uw_X3⟩
theorem lk_RX3_59 : tz_Lv RX3 59 yX3_mayBegin cX3_mayBegin 1 (some .boolean) 0 := ⟨tz_in 440 (by decide +kernel) rfl, tz_in 442 (by decide +kernel) rfl, tz_in 3 (by decide +kernel) rfl, tz_in 79 (by decide +kernel) rfl, tz_in 443 (by decide +kernel) rfl, by decide +kernel, by decide +kernel, by decide +kernel⟩
theorem lk_RX3_51 : tz_Lv RX3 51 yX3_take cX3_take 2 (none) 1 := ⟨tz_in 448 (by decide +kernel) rfl, tz_in 450 (by decide +kernel) rfl, tz_in 5 (by decide +kernel) rfl, tz_in 79 (by decide +kernel) rfl, tz_in 451 (by decide +kernel) rfl, by decide +kernel, by decide +kernel, by decide +kernel⟩
theorem fl_RX4_21 : tz_Fl RX4 21 6 0 := ⟨(RX6, TX6, 12), rfl, by decide, tz_in 158 (by decide +kernel) rfl, uw_X6⟩
theorem lk_RX4_39 : tz_Lv RX4 39 yX4_insert cX4_insert 3 (none) 1 := ⟨tz_in 706 (by decide +kernel) rfl, tz_in 708 (by decide +kernel) rfl, tz_in 27 (by decide +kernel) rfl, tz_in 85 (by decide +kernel) rfl, tz_in 709 (by decide +kernel) rfl, by decide +kernel, by decide +kernel, by decide +kernel⟩
theorem fl_RX4_18 : tz_Fl RX4 18 4 2 := ⟨(RX4, TX4, 3), rfl, by decide, tz_in 318 (by decide +kernel) rfl, uw_X4⟩
theorem fl_RX4_15 : tz_Fl RX4 15 4 1 := ⟨(RX4, TX4, 3), rfl, by decide, tz_in 316 (by decide +kernel) rfl, uw_X4⟩
theorem lk_RX4_31 : tz_Lv RX4 31 yX4_leftHill cX4_leftHill 4 (some .int) 1 := ⟨tz_in 698 (by decide +kernel) rfl, tz_in 700 (by decide +kernel) rfl, tz_in 25 (by decide +kernel) rfl, tz_in 85 (by decide +kernel) rfl, tz_in 701 (by decide +kernel) rfl, by decide +kernel, by decide +kernel, by decide +kernel⟩
theorem fl_RX4_9 : tz_Fl RX4 9 4 0 := ⟨(RX4, TX4, 3), rfl, by decide, tz_in 314 (by decide +kernel) rfl, uw_X4⟩
theorem lk_RX4_35 : tz_Lv RX4 35 yX4_rightHill cX4_rightHill 5 (some .int) 2 := ⟨tz_in 702 (by decide +kernel) rfl, tz_in 704 (by decide +kernel) rfl, tz_in 26 (by decide +kernel) rfl, tz_in 85 (by decide +kernel) rfl, tz_in 705 (by decide +kernel) rfl, by decide +kernel, by decide +kernel, by decide +kernel⟩
theorem lk_RX4_27 : tz_Ls RX4 27 yX4_likeness cX4_likeness 7 (some .int) 3 := ⟨tz_in 688 (by decide +kernel) rfl, tz_in 689 (by decide +kernel) rfl, tz_in 85 (by decide +kernel) rfl, tz_in 690 (by decide +kernel) rfl, by decide +kernel, by decide +kernel, by decide +kernel⟩
theorem mk_RX4_43 : Cond.methodLink RX4 43 Lib.Math.max.name ∈ tz_TB := tz_in 691 (by decide +kernel) rfl
theorem mk_st_max : Cond.static Lib.Math.max.name ∈ tz_TB := tz_in 692 (by decide +kernel) rfl
theorem mk_ini : Cond.initialized "java/lang/Math" ∈ tz_TB := tz_in 88 (by decide +kernel) rfl
theorem mk_co_max : Cond.code Lib.Math.max.name Lib.Math.max.code 2 (some .int) ∈ tz_TB := tz_in 693 (by decide +kernel) rfl
theorem mk_RX4_48 : Cond.methodLink RX4 48 Lib.Math.min.name ∈ tz_TB := tz_in 694 (by decide +kernel) rfl
theorem mk_st_min : Cond.static Lib.Math.min.name ∈ tz_TB := tz_in 511 (by decide +kernel) rfl
theorem mk_co_min : Cond.code Lib.Math.min.name Lib.Math.min.code 2 (some .int) ∈ tz_TB := tz_in 512 (by decide +kernel) rfl
theorem fl_RX4_51 : tz_Fl RX4 51 6 2 := ⟨(RX6, TX6, 12), rfl, by decide, tz_in 167 (by decide +kernel) rfl, uw_X6⟩
theorem lk_RX4_54 : tz_Ls RX4 54 yX4_wordsWithin cX4_wordsWithin 6 (some .int) 4 := ⟨tz_in 695 (by decide +kernel) rfl, tz_in 696 (by decide +kernel) rfl, tz_in 85 (by decide +kernel) rfl, tz_in 697 (by decide +kernel) rfl, by decide +kernel, by decide +kernel, by decide +kernel⟩
theorem fl_RX4_58 : tz_Fl RX4 58 6 6 := ⟨(RX6, TX6, 12), rfl, by decide, tz_in 179 (by decide +kernel) rfl, uw_X6⟩
theorem lk_RX5_23 : tz_Lv RX5 23 yX5_beginOf cX5_beginOf 6 (some .int) 3 := ⟨tz_in 722 (by decide +kernel) rfl, tz_in 646 (by decide +kernel) rfl, tz_in 647 (by decide +kernel) rfl, tz_in 83 (by decide +kernel) rfl, tz_in 648 (by decide +kernel) rfl, by decide +kernel, by decide +kernel, by decide +kernel⟩
theorem fp_RX6_9 : tz_Fp RX6 9 6 0 .int := ⟨(RX6, TX6, 12), rfl, by decide, tz_in 157 (by decide +kernel) rfl, uw_X6, rfl, by decide +kernel, ⟨tyX6, tyX6_ok⟩, nmX6⟩
theorem fp_RX6_15 : tz_Fp RX6 15 6 1 .int := ⟨(RX6, TX6, 12), rfl, by decide, tz_in 162 (by decide +kernel) rfl, uw_X6, rfl, by decide +kernel, ⟨tyX6, tyX6_ok⟩, nmX6⟩
theorem fp_RX6_18 : tz_Fp RX6 18 6 2 .int := ⟨(RX6, TX6, 12), rfl, by decide, tz_in 164 (by decide +kernel) rfl, uw_X6, rfl, by decide +kernel, ⟨tyX6, tyX6_ok⟩, nmX6⟩
theorem fl_RX6_52 : tz_Fl RX6 52 8 1 := ⟨(RX8, TX8, 2), rfl, by decide, tz_in 111 (by decide +kernel) rfl, uw_X8⟩
theorem fl_RX6_57 : tz_Fl RX6 57 8 0 := ⟨(RX8, TX8, 2), rfl, by decide, tz_in 107 (by decide +kernel) rfl, uw_X8⟩
theorem lk_RX6_60 : tz_Ln tz_nest1 RX6 60 yX9_isLetter cX9_isLetter 1 (some .boolean) 1 := ⟨rfl, tz_in 438 (by decide +kernel) rfl, tz_in 77 (by decide +kernel) rfl, tz_in 439 (by decide +kernel) rfl, by decide +kernel, by decide +kernel, by decide +kernel⟩
theorem fl_RX6_9 : tz_Fl RX6 9 6 0 := ⟨(RX6, TX6, 12), rfl, by decide, tz_in 157 (by decide +kernel) rfl, uw_X6⟩
theorem lk_RX6_64 : tz_Lv RX6 64 yX6_addWord cX6_addWord 8 (none) 3 := ⟨tz_in 457 (by decide +kernel) rfl, tz_in 459 (by decide +kernel) rfl, tz_in 6 (by decide +kernel) rfl, tz_in 80 (by decide +kernel) rfl, tz_in 460 (by decide +kernel) rfl, by decide +kernel, by decide +kernel, by decide +kernel⟩
theorem fl_RX6_25 : tz_Fl RX6 25 6 4 := ⟨(RX6, TX6, 12), rfl, by decide, tz_in 171 (by decide +kernel) rfl, uw_X6⟩
theorem fl_RX6_15 : tz_Fl RX6 15 6 1 := ⟨(RX6, TX6, 12), rfl, by decide, tz_in 162 (by decide +kernel) rfl, uw_X6⟩
theorem lk_RX6_68 : tz_Ls RX6 68 yX6_endingOf cX6_endingOf 3 (some .int) 2 := ⟨tz_in 461 (by decide +kernel) rfl, tz_in 462 (by decide +kernel) rfl, tz_in 80 (by decide +kernel) rfl, tz_in 463 (by decide +kernel) rfl, by decide +kernel, by decide +kernel, by decide +kernel⟩
theorem cw_RX6_83 : Cond.constantLong RX6 83 (31) ∈ tz_TB := tz_in 468 (by decide +kernel) rfl
theorem cw_RX6_85 : Cond.constantLong RX6 85 (19) ∈ tz_TB := tz_in 469 (by decide +kernel) rfl
theorem cw_RX6_79 : Cond.constantLong RX6 79 (1023) ∈ tz_TB := tz_in 466 (by decide +kernel) rfl
theorem cw_RX6_87 : Cond.constantLong RX6 87 (627) ∈ tz_TB := tz_in 470 (by decide +kernel) rfl
theorem cw_RX6_81 : Cond.constantLong RX6 81 (164) ∈ tz_TB := tz_in 467 (by decide +kernel) rfl
theorem cw_RX6_75 : Cond.constantLong RX6 75 (32767) ∈ tz_TB := tz_in 464 (by decide +kernel) rfl
theorem cw_RX6_77 : Cond.constantLong RX6 77 (9671) ∈ tz_TB := tz_in 465 (by decide +kernel) rfl
theorem lk_RX6_72 : tz_Lv RX6 72 yX6_numberOf cX6_numberOf 6 (some .int) 2 := ⟨tz_in 471 (by decide +kernel) rfl, tz_in 473 (by decide +kernel) rfl, tz_in 7 (by decide +kernel) rfl, tz_in 80 (by decide +kernel) rfl, tz_in 474 (by decide +kernel) rfl, by decide +kernel, by decide +kernel, by decide +kernel⟩
theorem fl_RX6_18 : tz_Fl RX6 18 6 2 := ⟨(RX6, TX6, 12), rfl, by decide, tz_in 164 (by decide +kernel) rfl, uw_X6⟩
theorem fl_RX6_48 : tz_Fl RX6 48 6 11 := ⟨(RX6, TX6, 12), rfl, by decide, tz_in 190 (by decide +kernel) rfl, uw_X6⟩
theorem fl_RX6_36 : tz_Fl RX6 36 6 7 := ⟨(RX6, TX6, 12), rfl, by decide, tz_in 180 (by decide +kernel) rfl, uw_X6⟩
theorem fl_RX6_39 : tz_Fl RX6 39 6 8 := ⟨(RX6, TX6, 12), rfl, by decide, tz_in 182 (by decide +kernel) rfl, uw_X6⟩
theorem fl_RX6_42 : tz_Fl RX6 42 6 9 := ⟨(RX6, TX6, 12), rfl, by decide, tz_in 184 (by decide +kernel) rfl, uw_X6⟩
theorem fl_RX6_33 : tz_Fl RX6 33 6 6 := ⟨(RX6, TX6, 12), rfl, by decide, tz_in 177 (by decide +kernel) rfl, uw_X6⟩
theorem fl_RX6_30 : tz_Fl RX6 30 6 5 := ⟨(RX6, TX6, 12), rfl, by decide, tz_in 174 (by decide +kernel) rfl, uw_X6⟩
theorem fl_RX6_45 : tz_Fl RX6 45 6 10 := ⟨(RX6, TX6, 12), rfl, by decide, tz_in 187 (by decide +kernel) rfl, uw_X6⟩
theorem fl_RX6_21 : tz_Fl RX6 21 6 3 := ⟨(RX6, TX6, 12), rfl, by decide, tz_in 169 (by decide +kernel) rfl, uw_X6⟩
theorem fl_RX7_9 : tz_Fl RX7 9 7 0 := ⟨(RX7, TX7, 3), rfl, by decide, tz_in 334 (by decide +kernel) rfl, uw_X7⟩
theorem fl_RX7_15 : tz_Fl RX7 15 7 1 := ⟨(RX7, TX7, 3), rfl, by decide, tz_in 336 (by decide +kernel) rfl, uw_X7⟩
theorem fl_RX7_20 : tz_Fl RX7 20 7 2 := ⟨(RX7, TX7, 3), rfl, by decide, tz_in 338 (by decide +kernel) rfl, uw_X7⟩
theorem lk_RX7_23 : tz_Lv RX7 23 yX7_isLost cX7_isLost 2 (some .boolean) 1 := ⟨tz_in 752 (by decide +kernel) rfl, tz_in 495 (by decide +kernel) rfl, tz_in 496 (by decide +kernel) rfl, tz_in 86 (by decide +kernel) rfl, tz_in 497 (by decide +kernel) rfl, by decide +kernel, by decide +kernel, by decide +kernel⟩
theorem sk_RX7_27 : Cond.methodLink RX7 27 arraycopyName ∈ tz_TB := tz_in 774 (by decide +kernel) rfl
theorem sk_na : Cond.native arraycopyName ∈ tz_TB := tz_in 776 (by decide +kernel) rfl
theorem sk_st : Cond.static arraycopyName ∈ tz_TB := tz_in 775 (by decide +kernel) rfl
theorem sk_ini : Cond.initialized "java/lang/System" ∈ tz_TB := tz_in 90 (by decide +kernel) rfl
theorem fl_RX8_15 : tz_Fl RX8 15 8 1 := ⟨(RX8, TX8, 2), rfl, by decide, tz_in 108 (by decide +kernel) rfl, uw_X8⟩
theorem fl_RX8_9 : tz_Fl RX8 9 8 0 := ⟨(RX8, TX8, 2), rfl, by decide, tz_in 105 (by decide +kernel) rfl, uw_X8⟩
theorem fp_RX8_15 : tz_Fp RX8 15 8 1 .int := ⟨(RX8, TX8, 2), rfl, by decide, tz_in 108 (by decide +kernel) rfl, uw_X8, rfl, by decide +kernel, ⟨tyX8, tyX8_ok⟩, nmX8⟩
theorem lk_RX9_99 : tz_Ls RX9 99 yX9_noByte cX9_noByte 1 (some .boolean) 1 := ⟨tz_in 402 (by decide +kernel) rfl, tz_in 403 (by decide +kernel) rfl, tz_in 77 (by decide +kernel) rfl, tz_in 404 (by decide +kernel) rfl, by decide +kernel, by decide +kernel, by decide +kernel⟩
theorem fl_RX9_12 : tz_Fl RX9 12 9 0 := ⟨(RX9, TX9, 17), rfl, by decide, tz_in 346 (by decide +kernel) rfl, uw_X9⟩
theorem fl_RX9_103 : tz_Fl RX9 103 8 1 := ⟨(RX8, TX8, 2), rfl, by decide, tz_in 109 (by decide +kernel) rfl, uw_X8⟩
theorem lk_RX9_106 : tz_Lv RX9 106 yX8_add cX8_add 2 (none) 1 := ⟨tz_in 405 (by decide +kernel) rfl, tz_in 406 (by decide +kernel) rfl, tz_in 407 (by decide +kernel) rfl, tz_in 78 (by decide +kernel) rfl, tz_in 408 (by decide +kernel) rfl, by decide +kernel, by decide +kernel, by decide +kernel⟩
theorem lk_RX9_110 : tz_Lv RX9 110 yX9_forgetText cX9_forgetText 1 (none) 0 := ⟨tz_in 409 (by decide +kernel) rfl, tz_in 411 (by decide +kernel) rfl, tz_in 0 (by decide +kernel) rfl, tz_in 77 (by decide +kernel) rfl, tz_in 412 (by decide +kernel) rfl, by decide +kernel, by decide +kernel, by decide +kernel⟩
theorem fp_RX9_83 : tz_Fp RX9 83 9 12 .boolean := ⟨(RX9, TX9, 17), rfl, by decide, tz_in 358 (by decide +kernel) rfl, uw_X9, rfl, by decide +kernel, ⟨tyX9, tyX9_ok⟩, nmX9⟩
theorem fp_RX9_87 : tz_Fp RX9 87 9 13 .boolean := ⟨(RX9, TX9, 17), rfl, by decide, tz_in 359 (by decide +kernel) rfl, uw_X9, rfl, by decide +kernel, ⟨tyX9, tyX9_ok⟩, nmX9⟩
theorem fp_RX9_90 : tz_Fp RX9 90 9 14 .boolean := ⟨(RX9, TX9, 17), rfl, by decide, tz_in 360 (by decide +kernel) rfl, uw_X9, rfl, by decide +kernel, ⟨tyX9, tyX9_ok⟩, nmX9⟩
theorem fp_RX9_93 : tz_Fp RX9 93 9 15 .boolean := ⟨(RX9, TX9, 17), rfl, by decide, tz_in 361 (by decide +kernel) rfl, uw_X9, rfl, by decide +kernel, ⟨tyX9, tyX9_ok⟩, nmX9⟩
theorem fp_RX9_96 : tz_Fp RX9 96 9 16 .boolean := ⟨(RX9, TX9, 17), rfl, by decide, tz_in 362 (by decide +kernel) rfl, uw_X9, rfl, by decide +kernel, ⟨tyX9, tyX9_ok⟩, nmX9⟩
theorem fp_RX9_103 : tz_Fp RX9 103 8 1 .int := ⟨(RX8, TX8, 2), rfl, by decide, tz_in 109 (by decide +kernel) rfl, uw_X8, rfl, by decide +kernel, ⟨tyX8, tyX8_ok⟩, nmX8⟩
theorem lk_RX9_113 : tz_Lv RX9 113 yX9_readText cX9_readText 1 (none) 0 := ⟨tz_in 425 (by decide +kernel) rfl, tz_in 427 (by decide +kernel) rfl, tz_in 1 (by decide +kernel) rfl, tz_in 77 (by decide +kernel) rfl, tz_in 428 (by decide +kernel) rfl, by decide +kernel, by decide +kernel, by decide +kernel⟩
theorem fl_RX9_83 : tz_Fl RX9 83 9 12 := ⟨(RX9, TX9, 17), rfl, by decide, tz_in 358 (by decide +kernel) rfl, uw_X9⟩
theorem fl_RX9_19 : tz_Fl RX9 19 9 1 := ⟨(RX9, TX9, 17), rfl, by decide, tz_in 347 (by decide +kernel) rfl, uw_X9⟩
theorem lk_RX9_366 : tz_Lv RX9 366 yX3_seek cX3_seek 4 (none) 1 := ⟨tz_in 429 (by decide +kernel) rfl, tz_in 430 (by decide +kernel) rfl, tz_in 431 (by decide +kernel) rfl, tz_in 79 (by decide +kernel) rfl, tz_in 432 (by decide +kernel) rfl, by decide +kernel, by decide +kernel, by decide +kernel⟩
theorem fl_RX9_26 : tz_Fl RX9 26 9 2 := ⟨(RX9, TX9, 17), rfl, by decide, tz_in 348 (by decide +kernel) rfl, uw_X9⟩
theorem fl_RX9_119 : tz_Fl RX9 119 3 1 := ⟨(RX3, TX3, 7), rfl, by decide, tz_in 127 (by decide +kernel) rfl, uw_X3⟩
theorem lk_RX9_370 : tz_Lv RX9 370 yX6_fill cX6_fill 8 (none) 2 := ⟨tz_in 452 (by decide +kernel) rfl, tz_in 453 (by decide +kernel) rfl, tz_in 454 (by decide +kernel) rfl, tz_in 80 (by decide +kernel) rfl, tz_in 455 (by decide +kernel) rfl, by decide +kernel, by decide +kernel, by decide +kernel⟩
theorem fl_RX9_122 : tz_Fl RX9 122 3 2 := ⟨(RX3, TX3, 7), rfl, by decide, tz_in 129 (by decide +kernel) rfl, uw_X3⟩
theorem fl_RX9_116 : tz_Fl RX9 116 3 0 := ⟨(RX3, TX3, 7), rfl, by decide, tz_in 125 (by decide +kernel) rfl, uw_X3⟩
theorem gs_RX9_125 : Cond.fieldLink RX9 125 "TopicSeams" "LEAST" "[I" ∈ tz_TB := tz_in 479 (by decide +kernel) rfl
theorem gs_RX9_128 : Cond.fieldLink RX9 128 "TopicSeams" "MOST" "[I" ∈ tz_TB := tz_in 481 (by decide +kernel) rfl
theorem fl_RX9_72 : tz_Fl RX9 72 9 9 := ⟨(RX9, TX9, 17), rfl, by decide, tz_in 355 (by decide +kernel) rfl, uw_X9⟩
theorem fl_RX9_76 : tz_Fl RX9 76 9 10 := ⟨(RX9, TX9, 17), rfl, by decide, tz_in 356 (by decide +kernel) rfl, uw_X9⟩
theorem fp_RX9_76 : tz_Fp RX9 76 9 10 .int := ⟨(RX9, TX9, 17), rfl, by decide, tz_in 356 (by decide +kernel) rfl, uw_X9, rfl, by decide +kernel, ⟨tyX9, tyX9_ok⟩, nmX9⟩
theorem lk_RX9_131 : tz_Ls RX9 131 yX9_noSheet cX9_noSheet 1 (some .boolean) 1 := ⟨tz_in 491 (by decide +kernel) rfl, tz_in 492 (by decide +kernel) rfl, tz_in 77 (by decide +kernel) rfl, tz_in 493 (by decide +kernel) rfl, by decide +kernel, by decide +kernel, by decide +kernel⟩
theorem fl_RX9_68 : tz_Fl RX9 68 9 8 := ⟨(RX9, TX9, 17), rfl, by decide, tz_in 354 (by decide +kernel) rfl, uw_X9⟩
theorem lk_RX9_134 : tz_Lv RX9 134 yX7_isLost cX7_isLost 2 (some .boolean) 1 := ⟨tz_in 494 (by decide +kernel) rfl, tz_in 495 (by decide +kernel) rfl, tz_in 496 (by decide +kernel) rfl, tz_in 86 (by decide +kernel) rfl, tz_in 497 (by decide +kernel) rfl, by decide +kernel, by decide +kernel, by decide +kernel⟩
theorem lk_RX9_141 : tz_Lv RX9 141 yX9_leadingBytes cX9_leadingBytes 3 (some .int) 1 := ⟨tz_in 502 (by decide +kernel) rfl, tz_in 504 (by decide +kernel) rfl, tz_in 9 (by decide +kernel) rfl, tz_in 77 (by decide +kernel) rfl, tz_in 505 (by decide +kernel) rfl, by decide +kernel, by decide +kernel, by decide +kernel⟩
theorem fl_RX9_276 : tz_Fl RX9 276 7 1 := ⟨(RX7, TX7, 3), rfl, by decide, tz_in 337 (by decide +kernel) rfl, uw_X7⟩
theorem lk_RX9_150 : tz_Lv RX9 150 yX7_item cX7_item 3 (some .int) 2 := ⟨tz_in 506 (by decide +kernel) rfl, tz_in 507 (by decide +kernel) rfl, tz_in 508 (by decide +kernel) rfl, tz_in 86 (by decide +kernel) rfl, tz_in 509 (by decide +kernel) rfl, by decide +kernel, by decide +kernel, by decide +kernel⟩
theorem mk_RX9_144 : Cond.methodLink RX9 144 Lib.Math.min.name ∈ tz_TB := tz_in 510 (by decide +kernel) rfl
theorem lk_RX9_137 : tz_Lv RX9 137 yX9_finding cX9_finding 2 (some .int) 1 := ⟨tz_in 498 (by decide +kernel) rfl, tz_in 500 (by decide +kernel) rfl, tz_in 8 (by decide +kernel) rfl, tz_in 77 (by decide +kernel) rfl, tz_in 501 (by decide +kernel) rfl, by decide +kernel, by decide +kernel, by decide +kernel⟩
theorem fp_RX9_80 : tz_Fp RX9 80 9 11 .int := ⟨(RX9, TX9, 17), rfl, by decide, tz_in 357 (by decide +kernel) rfl, uw_X9, rfl, by decide +kernel, ⟨tyX9, tyX9_ok⟩, nmX9⟩
theorem lk_RX9_153 : tz_Lv RX9 153 yX9_noSentence cX9_noSentence 2 (some .boolean) 1 := ⟨tz_in 517 (by decide +kernel) rfl, tz_in 519 (by decide +kernel) rfl, tz_in 10 (by decide +kernel) rfl, tz_in 77 (by decide +kernel) rfl, tz_in 520 (by decide +kernel) rfl, by decide +kernel, by decide +kernel, by decide +kernel⟩
theorem fl_RX9_214 : tz_Fl RX9 214 6 0 := ⟨(RX6, TX6, 12), rfl, by decide, tz_in 161 (by decide +kernel) rfl, uw_X6⟩
theorem fl_RX9_165 : tz_Fl RX9 165 6 3 := ⟨(RX6, TX6, 12), rfl, by decide, tz_in 170 (by decide +kernel) rfl, uw_X6⟩
theorem lk_RX9_162 : tz_Lv RX9 162 yX6_onceIn cX6_onceIn 4 (some .int) 1 := ⟨tz_in 525 (by decide +kernel) rfl, tz_in 526 (by decide +kernel) rfl, tz_in 527 (by decide +kernel) rfl, tz_in 80 (by decide +kernel) rfl, tz_in 528 (by decide +kernel) rfl, by decide +kernel, by decide +kernel, by decide +kernel⟩
theorem lk_RX9_159 : tz_Lv RX9 159 yX6_unlikeIn cX6_unlikeIn 4 (some .int) 1 := ⟨tz_in 521 (by decide +kernel) rfl, tz_in 522 (by decide +kernel) rfl, tz_in 523 (by decide +kernel) rfl, tz_in 80 (by decide +kernel) rfl, tz_in 524 (by decide +kernel) rfl, by decide +kernel, by decide +kernel, by decide +kernel⟩
theorem fl_RX9_156 : tz_Fl RX9 156 6 4 := ⟨(RX6, TX6, 12), rfl, by decide, tz_in 173 (by decide +kernel) rfl, uw_X6⟩
theorem fl_RX9_168 : tz_Fl RX9 168 6 5 := ⟨(RX6, TX6, 12), rfl, by decide, tz_in 176 (by decide +kernel) rfl, uw_X6⟩
theorem lk_RX9_172 : tz_Lv RX9 172 yX9_noStem cX9_noStem 2 (some .boolean) 1 := ⟨tz_in 537 (by decide +kernel) rfl, tz_in 539 (by decide +kernel) rfl, tz_in 11 (by decide +kernel) rfl, tz_in 77 (by decide +kernel) rfl, tz_in 540 (by decide +kernel) rfl, by decide +kernel, by decide +kernel, by decide +kernel⟩
theorem fl_RX9_297 : tz_Fl RX9 297 6 2 := ⟨(RX6, TX6, 12), rfl, by decide, tz_in 168 (by decide +kernel) rfl, uw_X6⟩
theorem fl_RX9_184 : tz_Fl RX9 184 6 10 := ⟨(RX6, TX6, 12), rfl, by decide, tz_in 189 (by decide +kernel) rfl, uw_X6⟩
theorem fl_RX9_181 : tz_Fl RX9 181 6 9 := ⟨(RX6, TX6, 12), rfl, by decide, tz_in 186 (by decide +kernel) rfl, uw_X6⟩
theorem fl_RX9_178 : tz_Fl RX9 178 6 8 := ⟨(RX6, TX6, 12), rfl, by decide, tz_in 183 (by decide +kernel) rfl, uw_X6⟩
theorem fl_RX9_175 : tz_Fl RX9 175 6 7 := ⟨(RX6, TX6, 12), rfl, by decide, tz_in 181 (by decide +kernel) rfl, uw_X6⟩
theorem lk_RX9_187 : tz_Lv RX9 187 yX6_letterOf cX6_letterOf 4 (some .int) 2 := ⟨tz_in 545 (by decide +kernel) rfl, tz_in 546 (by decide +kernel) rfl, tz_in 547 (by decide +kernel) rfl, tz_in 80 (by decide +kernel) rfl, tz_in 548 (by decide +kernel) rfl, by decide +kernel, by decide +kernel, by decide +kernel⟩
theorem lk_RX9_190 : tz_Lv RX9 190 yX9_linkChains cX9_linkChains 1 (none) 0 := ⟨tz_in 553 (by decide +kernel) rfl, tz_in 555 (by decide +kernel) rfl, tz_in 12 (by decide +kernel) rfl, tz_in 77 (by decide +kernel) rfl, tz_in 556 (by decide +kernel) rfl, by decide +kernel, by decide +kernel, by decide +kernel⟩
theorem fl_RX9_87 : tz_Fl RX9 87 9 13 := ⟨(RX9, TX9, 17), rfl, by decide, tz_in 359 (by decide +kernel) rfl, uw_X9⟩
theorem fl_RX9_33 : tz_Fl RX9 33 9 3 := ⟨(RX9, TX9, 17), rfl, by decide, tz_in 349 (by decide +kernel) rfl, uw_X9⟩
theorem lk_RX9_374 : tz_Lv RX9 374 yX1_fill cX1_fill 4 (none) 2 := ⟨tz_in 557 (by decide +kernel) rfl, tz_in 558 (by decide +kernel) rfl, tz_in 559 (by decide +kernel) rfl, tz_in 81 (by decide +kernel) rfl, tz_in 560 (by decide +kernel) rfl, by decide +kernel, by decide +kernel, by decide +kernel⟩
theorem fl_RX9_193 : tz_Fl RX9 193 1 0 := ⟨(RX1, TX1, 5), rfl, by decide, tz_in 224 (by decide +kernel) rfl, uw_X1⟩
theorem lk_RX9_202 : tz_Lv RX9 202 yX1_weightOf cX1_weightOf 2 (some .int) 1 := ⟨tz_in 573 (by decide +kernel) rfl, tz_in 574 (by decide +kernel) rfl, tz_in 575 (by decide +kernel) rfl, tz_in 81 (by decide +kernel) rfl, tz_in 576 (by decide +kernel) rfl, by decide +kernel, by decide +kernel, by decide +kernel⟩
theorem fl_RX9_199 : tz_Fl RX9 199 1 4 := ⟨(RX1, TX1, 5), rfl, by decide, tz_in 232 (by decide +kernel) rfl, uw_X1⟩
theorem fl_RX9_198 : tz_Fl RX9 198 1 3 := ⟨(RX1, TX1, 5), rfl, by decide, tz_in 230 (by decide +kernel) rfl, uw_X1⟩
theorem fl_RX9_197 : tz_Fl RX9 197 1 2 := ⟨(RX1, TX1, 5), rfl, by decide, tz_in 228 (by decide +kernel) rfl, uw_X1⟩
theorem fl_RX9_194 : tz_Fl RX9 194 1 1 := ⟨(RX1, TX1, 5), rfl, by decide, tz_in 226 (by decide +kernel) rfl, uw_X1⟩
theorem lk_RX9_205 : tz_Lv RX9 205 yX9_noGap cX9_noGap 2 (some .boolean) 1 := ⟨tz_in 581 (by decide +kernel) rfl, tz_in 583 (by decide +kernel) rfl, tz_in 15 (by decide +kernel) rfl, tz_in 77 (by decide +kernel) rfl, tz_in 584 (by decide +kernel) rfl, by decide +kernel, by decide +kernel, by decide +kernel⟩
theorem lk_RX9_211 : tz_Lv RX9 211 yX1_weightOver cX1_weightOver 4 (some .int) 1 := ⟨tz_in 593 (by decide +kernel) rfl, tz_in 594 (by decide +kernel) rfl, tz_in 595 (by decide +kernel) rfl, tz_in 81 (by decide +kernel) rfl, tz_in 596 (by decide +kernel) rfl, by decide +kernel, by decide +kernel, by decide +kernel⟩
theorem lk_RX9_208 : tz_Lv RX9 208 yX1_numberOver cX1_numberOver 4 (some .int) 1 := ⟨tz_in 585 (by decide +kernel) rfl, tz_in 586 (by decide +kernel) rfl, tz_in 587 (by decide +kernel) rfl, tz_in 81 (by decide +kernel) rfl, tz_in 588 (by decide +kernel) rfl, by decide +kernel, by decide +kernel, by decide +kernel⟩
theorem lk_RX9_217 : tz_Lv RX9 217 yX9_partText cX9_partText 1 (none) 0 := ⟨tz_in 602 (by decide +kernel) rfl, tz_in 604 (by decide +kernel) rfl, tz_in 17 (by decide +kernel) rfl, tz_in 77 (by decide +kernel) rfl, tz_in 605 (by decide +kernel) rfl, by decide +kernel, by decide +kernel, by decide +kernel⟩
theorem fl_RX9_90 : tz_Fl RX9 90 9 14 := ⟨(RX9, TX9, 17), rfl, by decide, tz_in 360 (by decide +kernel) rfl, uw_X9⟩
theorem fl_RX9_40 : tz_Fl RX9 40 9 4 := ⟨(RX9, TX9, 17), rfl, by decide, tz_in 350 (by decide +kernel) rfl, uw_X9⟩
theorem lk_RX9_377 : tz_Lv RX9 377 yX0_fill cX0_fill 8 (none) 4 := ⟨tz_in 606 (by decide +kernel) rfl, tz_in 607 (by decide +kernel) rfl, tz_in 608 (by decide +kernel) rfl, tz_in 82 (by decide +kernel) rfl, tz_in 609 (by decide +kernel) rfl, by decide +kernel, by decide +kernel, by decide +kernel⟩
theorem fl_RX9_47 : tz_Fl RX9 47 9 5 := ⟨(RX9, TX9, 17), rfl, by decide, tz_in 351 (by decide +kernel) rfl, uw_X9⟩
theorem fl_RX9_220 : tz_Fl RX9 220 0 0 := ⟨(RX0, TX0, 5), rfl, by decide, tz_in 253 (by decide +kernel) rfl, uw_X0⟩
theorem lk_RX9_380 : tz_Lv RX9 380 yX5_fill cX5_fill 5 (none) 2 := ⟨tz_in 622 (by decide +kernel) rfl, tz_in 623 (by decide +kernel) rfl, tz_in 624 (by decide +kernel) rfl, tz_in 83 (by decide +kernel) rfl, tz_in 625 (by decide +kernel) rfl, by decide +kernel, by decide +kernel, by decide +kernel⟩
theorem lk_RX9_223 : tz_Ls RX9 223 yX9_noParts cX9_noParts 1 (some .boolean) 1 := ⟨tz_in 634 (by decide +kernel) rfl, tz_in 635 (by decide +kernel) rfl, tz_in 77 (by decide +kernel) rfl, tz_in 636 (by decide +kernel) rfl, by decide +kernel, by decide +kernel, by decide +kernel⟩
theorem lk_RX9_226 : tz_Lv RX9 226 yX5_totalOf cX5_totalOf 3 (some .int) 2 := ⟨tz_in 637 (by decide +kernel) rfl, tz_in 638 (by decide +kernel) rfl, tz_in 639 (by decide +kernel) rfl, tz_in 83 (by decide +kernel) rfl, tz_in 640 (by decide +kernel) rfl, by decide +kernel, by decide +kernel, by decide +kernel⟩
theorem lk_RX9_229 : tz_Lv RX9 229 yX5_beginOf cX5_beginOf 6 (some .int) 3 := ⟨tz_in 645 (by decide +kernel) rfl, tz_in 646 (by decide +kernel) rfl, tz_in 647 (by decide +kernel) rfl, tz_in 83 (by decide +kernel) rfl, tz_in 648 (by decide +kernel) rfl, by decide +kernel, by decide +kernel, by decide +kernel⟩
theorem lk_RX9_233 : tz_Lv RX9 233 yX5_isBent cX5_isBent 3 (some .boolean) 2 := ⟨tz_in 653 (by decide +kernel) rfl, tz_in 654 (by decide +kernel) rfl, tz_in 655 (by decide +kernel) rfl, tz_in 83 (by decide +kernel) rfl, tz_in 656 (by decide +kernel) rfl, by decide +kernel, by decide +kernel, by decide +kernel⟩
theorem lk_RX9_237 : tz_Lv RX9 237 yX9_dropSentences cX9_dropSentences 1 (none) 0 := ⟨tz_in 661 (by decide +kernel) rfl, tz_in 663 (by decide +kernel) rfl, tz_in 22 (by decide +kernel) rfl, tz_in 77 (by decide +kernel) rfl, tz_in 664 (by decide +kernel) rfl, by decide +kernel, by decide +kernel, by decide +kernel⟩
theorem fl_RX9_93 : tz_Fl RX9 93 9 15 := ⟨(RX9, TX9, 17), rfl, by decide, tz_in 361 (by decide +kernel) rfl, uw_X9⟩
theorem fl_RX9_54 : tz_Fl RX9 54 9 6 := ⟨(RX9, TX9, 17), rfl, by decide, tz_in 352 (by decide +kernel) rfl, uw_X9⟩
theorem lk_RX9_383 : tz_Lv RX9 383 yX2_fill cX2_fill 7 (none) 3 := ⟨tz_in 665 (by decide +kernel) rfl, tz_in 666 (by decide +kernel) rfl, tz_in 667 (by decide +kernel) rfl, tz_in 84 (by decide +kernel) rfl, tz_in 668 (by decide +kernel) rfl, by decide +kernel, by decide +kernel, by decide +kernel⟩
theorem fl_RX9_243 : tz_Fl RX9 243 2 1 := ⟨(RX2, TX2, 4), rfl, by decide, tz_in 296 (by decide +kernel) rfl, uw_X2⟩
theorem fl_RX9_240 : tz_Fl RX9 240 2 0 := ⟨(RX2, TX2, 4), rfl, by decide, tz_in 294 (by decide +kernel) rfl, uw_X2⟩
theorem lk_RX9_246 : tz_Lv RX9 246 yX9_weighGaps cX9_weighGaps 1 (none) 0 := ⟨tz_in 680 (by decide +kernel) rfl, tz_in 682 (by decide +kernel) rfl, tz_in 24 (by decide +kernel) rfl, tz_in 77 (by decide +kernel) rfl, tz_in 683 (by decide +kernel) rfl, by decide +kernel, by decide +kernel, by decide +kernel⟩
theorem fl_RX9_96 : tz_Fl RX9 96 9 16 := ⟨(RX9, TX9, 17), rfl, by decide, tz_in 362 (by decide +kernel) rfl, uw_X9⟩
theorem fl_RX9_61 : tz_Fl RX9 61 9 7 := ⟨(RX9, TX9, 17), rfl, by decide, tz_in 353 (by decide +kernel) rfl, uw_X9⟩
theorem lk_RX9_386 : tz_Lv RX9 386 yX4_fill cX4_fill 5 (none) 2 := ⟨tz_in 684 (by decide +kernel) rfl, tz_in 685 (by decide +kernel) rfl, tz_in 686 (by decide +kernel) rfl, tz_in 85 (by decide +kernel) rfl, tz_in 687 (by decide +kernel) rfl, by decide +kernel, by decide +kernel, by decide +kernel⟩
theorem fl_RX9_252 : tz_Fl RX9 252 4 1 := ⟨(RX4, TX4, 3), rfl, by decide, tz_in 317 (by decide +kernel) rfl, uw_X4⟩
theorem fl_RX9_249 : tz_Fl RX9 249 4 0 := ⟨(RX4, TX4, 3), rfl, by decide, tz_in 315 (by decide +kernel) rfl, uw_X4⟩
theorem fl_RX9_255 : tz_Fl RX9 255 4 2 := ⟨(RX4, TX4, 3), rfl, by decide, tz_in 319 (by decide +kernel) rfl, uw_X4⟩
theorem lk_RX9_258 : tz_Lv RX9 258 yX5_seamBits cX5_seamBits 5 (some .int) 2 := ⟨tz_in 718 (by decide +kernel) rfl, tz_in 719 (by decide +kernel) rfl, tz_in 720 (by decide +kernel) rfl, tz_in 83 (by decide +kernel) rfl, tz_in 721 (by decide +kernel) rfl, by decide +kernel, by decide +kernel, by decide +kernel⟩
theorem lk_RX9_261 : tz_Ls RX9 261 yJ6_bitCount_0f7a4 cJ6_bitCount_0f7a4 1 (some .int) 1 := ⟨tz_in 723 (by decide +kernel) rfl, tz_in 724 (by decide +kernel) rfl, tz_in 89 (by decide +kernel) rfl, tz_in 725 (by decide +kernel) rfl, by decide +kernel, by decide +kernel, by decide +kernel⟩
theorem cw_RJ6_265 : Cond.constant RJ6 265 (1431655765) ∈ tz_TB := tz_in 726 (by decide +kernel) rfl
theorem cw_RJ6_266 : Cond.constant RJ6 266 (858993459) ∈ tz_TB := tz_in 727 (by decide +kernel) rfl
theorem cw_RJ6_267 : Cond.constant RJ6 267 (252645135) ∈ tz_TB := tz_in 728 (by decide +kernel) rfl
theorem lk_RX9_266 : tz_Ls RX9 266 yX9_noForm cX9_noForm 1 (some .boolean) 1 := ⟨tz_in 733 (by decide +kernel) rfl, tz_in 734 (by decide +kernel) rfl, tz_in 77 (by decide +kernel) rfl, tz_in 735 (by decide +kernel) rfl, by decide +kernel, by decide +kernel, by decide +kernel⟩
theorem lk_RX9_269 : tz_Lv RX9 269 yX7_make cX7_make 5 (none) 3 := ⟨tz_in 736 (by decide +kernel) rfl, tz_in 737 (by decide +kernel) rfl, tz_in 738 (by decide +kernel) rfl, tz_in 86 (by decide +kernel) rfl, tz_in 739 (by decide +kernel) rfl, by decide +kernel, by decide +kernel, by decide +kernel⟩
theorem fl_RX9_273 : tz_Fl RX9 273 7 0 := ⟨(RX7, TX7, 3), rfl, by decide, tz_in 335 (by decide +kernel) rfl, uw_X7⟩
theorem lk_RX9_279 : tz_Lv RX9 279 yX7_againstItem cX7_againstItem 4 (some .int) 3 := ⟨tz_in 748 (by decide +kernel) rfl, tz_in 749 (by decide +kernel) rfl, tz_in 750 (by decide +kernel) rfl, tz_in 86 (by decide +kernel) rfl, tz_in 751 (by decide +kernel) rfl, by decide +kernel, by decide +kernel, by decide +kernel⟩
theorem lk_RX9_282 : tz_Lv RX9 282 yX7_keep cX7_keep 4 (none) 3 := ⟨tz_in 753 (by decide +kernel) rfl, tz_in 754 (by decide +kernel) rfl, tz_in 755 (by decide +kernel) rfl, tz_in 86 (by decide +kernel) rfl, tz_in 756 (by decide +kernel) rfl, by decide +kernel, by decide +kernel, by decide +kernel⟩
theorem cw_RX9_285 : Cond.constant RX9 285 (-2147483648) ∈ tz_TB := tz_in 761 (by decide +kernel) rfl
theorem lk_RX9_286 : tz_Lv RX9 286 yX7_lacks cX7_lacks 4 (some .boolean) 3 := ⟨tz_in 766 (by decide +kernel) rfl, tz_in 767 (by decide +kernel) rfl, tz_in 768 (by decide +kernel) rfl, tz_in 86 (by decide +kernel) rfl, tz_in 769 (by decide +kernel) rfl, by decide +kernel, by decide +kernel, by decide +kernel⟩
theorem lk_RX9_290 : tz_Lv RX9 290 yX7_move cX7_move 6 (none) 5 := ⟨tz_in 770 (by decide +kernel) rfl, tz_in 771 (by decide +kernel) rfl, tz_in 772 (by decide +kernel) rfl, tz_in 86 (by decide +kernel) rfl, tz_in 773 (by decide +kernel) rfl, by decide +kernel, by decide +kernel, by decide +kernel⟩
theorem fl_RX9_294 : tz_Fl RX9 294 6 1 := ⟨(RX6, TX6, 12), rfl, by decide, tz_in 163 (by decide +kernel) rfl, uw_X6⟩
theorem lk_RX9_300 : tz_Lv RX9 300 yX9_chains cX9_chains 1 (some .int) 0 := ⟨tz_in 785 (by decide +kernel) rfl, tz_in 550 (by decide +kernel) rfl, tz_in 551 (by decide +kernel) rfl, tz_in 77 (by decide +kernel) rfl, tz_in 552 (by decide +kernel) rfl, by decide +kernel, by decide +kernel, by decide +kernel⟩
theorem fl_RX9_80 : tz_Fl RX9 80 9 11 := ⟨(RX9, TX9, 17), rfl, by decide, tz_in 357 (by decide +kernel) rfl, uw_X9⟩
theorem cw_RX9_304 : Cond.constantLong RX9 304 (17) ∈ tz_TB := tz_in 790 (by decide +kernel) rfl
theorem cw_RX9_306 : Cond.constantLong RX9 306 (31) ∈ tz_TB := tz_in 791 (by decide +kernel) rfl
theorem lk_RX9_330 : tz_Lv RX9 330 yX9_bent cX9_bent 3 (some .int) 0 := ⟨tz_in 819 (by decide +kernel) rfl, tz_in 650 (by decide +kernel) rfl, tz_in 651 (by decide +kernel) rfl, tz_in 77 (by decide +kernel) rfl, tz_in 652 (by decide +kernel) rfl, by decide +kernel, by decide +kernel, by decide +kernel⟩
theorem lk_RX9_327 : tz_Lv RX9 327 yX9_mixParting cX9_mixParting 7 (some .long) 2 := ⟨tz_in 811 (by decide +kernel) rfl, tz_in 813 (by decide +kernel) rfl, tz_in 30 (by decide +kernel) rfl, tz_in 77 (by decide +kernel) rfl, tz_in 814 (by decide +kernel) rfl, by decide +kernel, by decide +kernel, by decide +kernel⟩
theorem lk_RX9_354 : tz_Lv RX9 354 yX9_best cX9_best 2 (some .int) 1 := ⟨tz_in 815 (by decide +kernel) rfl, tz_in 631 (by decide +kernel) rfl, tz_in 632 (by decide +kernel) rfl, tz_in 77 (by decide +kernel) rfl, tz_in 633 (by decide +kernel) rfl, by decide +kernel, by decide +kernel, by decide +kernel⟩
theorem lk_RX9_360 : tz_Lv RX9 360 yX9_drop cX9_drop 3 (some .int) 2 := ⟨tz_in 817 (by decide +kernel) rfl, tz_in 658 (by decide +kernel) rfl, tz_in 659 (by decide +kernel) rfl, tz_in 77 (by decide +kernel) rfl, tz_in 660 (by decide +kernel) rfl, by decide +kernel, by decide +kernel, by decide +kernel⟩
theorem lk_RX9_363 : tz_Lv RX9 363 yX9_apart cX9_apart 8 (some .int) 2 := ⟨tz_in 818 (by decide +kernel) rfl, tz_in 715 (by decide +kernel) rfl, tz_in 716 (by decide +kernel) rfl, tz_in 77 (by decide +kernel) rfl, tz_in 717 (by decide +kernel) rfl, by decide +kernel, by decide +kernel, by decide +kernel⟩
theorem lk_RX9_357 : tz_Lv RX9 357 yX9_seam cX9_seam 3 (some .int) 2 := ⟨tz_in 816 (by decide +kernel) rfl, tz_in 642 (by decide +kernel) rfl, tz_in 643 (by decide +kernel) rfl, tz_in 77 (by decide +kernel) rfl, tz_in 644 (by decide +kernel) rfl, by decide +kernel, by decide +kernel, by decide +kernel⟩
theorem lk_RX9_324 : tz_Lv RX9 324 yX9_cost cX9_cost 4 (some .int) 2 := ⟨tz_in 810 (by decide +kernel) rfl, tz_in 599 (by decide +kernel) rfl, tz_in 600 (by decide +kernel) rfl, tz_in 77 (by decide +kernel) rfl, tz_in 601 (by decide +kernel) rfl, by decide +kernel, by decide +kernel, by decide +kernel⟩
theorem lk_RX9_321 : tz_Lv RX9 321 yX9_chain cX9_chain 3 (some .int) 2 := ⟨tz_in 809 (by decide +kernel) rfl, tz_in 570 (by decide +kernel) rfl, tz_in 571 (by decide +kernel) rfl, tz_in 77 (by decide +kernel) rfl, tz_in 572 (by decide +kernel) rfl, by decide +kernel, by decide +kernel, by decide +kernel⟩
theorem lk_RX9_318 : tz_Lv RX9 318 yX9_mixStem cX9_mixStem 7 (some .long) 2 := ⟨tz_in 803 (by decide +kernel) rfl, tz_in 805 (by decide +kernel) rfl, tz_in 29 (by decide +kernel) rfl, tz_in 77 (by decide +kernel) rfl, tz_in 806 (by decide +kernel) rfl, by decide +kernel, by decide +kernel, by decide +kernel⟩
theorem lk_RX9_351 : tz_Lv RX9 351 yX9_letter cX9_letter 3 (some .int) 2 := ⟨tz_in 808 (by decide +kernel) rfl, tz_in 542 (by decide +kernel) rfl, tz_in 543 (by decide +kernel) rfl, tz_in 77 (by decide +kernel) rfl, tz_in 544 (by decide +kernel) rfl, by decide +kernel, by decide +kernel, by decide +kernel⟩
theorem lk_RX9_348 : tz_Lv RX9 348 yX9_stem cX9_stem 3 (some .int) 2 := ⟨tz_in 807 (by decide +kernel) rfl, tz_in 534 (by decide +kernel) rfl, tz_in 535 (by decide +kernel) rfl, tz_in 77 (by decide +kernel) rfl, tz_in 536 (by decide +kernel) rfl, by decide +kernel, by decide +kernel, by decide +kernel⟩
theorem lk_RX9_314 : tz_Lv RX9 314 yX9_mixSentence cX9_mixSentence 7 (some .long) 2 := ⟨tz_in 794 (by decide +kernel) rfl, tz_in 796 (by decide +kernel) rfl, tz_in 28 (by decide +kernel) rfl, tz_in 77 (by decide +kernel) rfl, tz_in 797 (by decide +kernel) rfl, by decide +kernel, by decide +kernel, by decide +kernel⟩
theorem lk_RX9_336 : tz_Lv RX9 336 yX9_word cX9_word 3 (some .int) 2 := ⟨tz_in 799 (by decide +kernel) rfl, tz_in 530 (by decide +kernel) rfl, tz_in 531 (by decide +kernel) rfl, tz_in 77 (by decide +kernel) rfl, tz_in 532 (by decide +kernel) rfl, by decide +kernel, by decide +kernel, by decide +kernel⟩
theorem lk_RX9_339 : tz_Lv RX9 339 yX9_gap cX9_gap 3 (some .int) 2 := ⟨tz_in 800 (by decide +kernel) rfl, tz_in 677 (by decide +kernel) rfl, tz_in 678 (by decide +kernel) rfl, tz_in 77 (by decide +kernel) rfl, tz_in 679 (by decide +kernel) rfl, by decide +kernel, by decide +kernel, by decide +kernel⟩
theorem lk_RX9_342 : tz_Lv RX9 342 yX9_over cX9_over 3 (some .int) 2 := ⟨tz_in 801 (by decide +kernel) rfl, tz_in 578 (by decide +kernel) rfl, tz_in 579 (by decide +kernel) rfl, tz_in 77 (by decide +kernel) rfl, tz_in 580 (by decide +kernel) rfl, by decide +kernel, by decide +kernel, by decide +kernel⟩
theorem lk_RX9_345 : tz_Lv RX9 345 yX9_deep cX9_deep 2 (some .int) 1 := ⟨tz_in 802 (by decide +kernel) rfl, tz_in 711 (by decide +kernel) rfl, tz_in 712 (by decide +kernel) rfl, tz_in 77 (by decide +kernel) rfl, tz_in 713 (by decide +kernel) rfl, by decide +kernel, by decide +kernel, by decide +kernel⟩
theorem lk_RX9_333 : tz_Lv RX9 333 yX9_sentence cX9_sentence 3 (some .int) 2 := ⟨tz_in 798 (by decide +kernel) rfl, tz_in 514 (by decide +kernel) rfl, tz_in 515 (by decide +kernel) rfl, tz_in 77 (by decide +kernel) rfl, tz_in 516 (by decide +kernel) rfl, by decide +kernel, by decide +kernel, by decide +kernel⟩
theorem lk_RX9_311 : tz_Lv RX9 311 yX9_fault cX9_fault 2 (some .int) 1 := ⟨tz_in 793 (by decide +kernel) rfl, tz_in 422 (by decide +kernel) rfl, tz_in 423 (by decide +kernel) rfl, tz_in 77 (by decide +kernel) rfl, tz_in 424 (by decide +kernel) rfl, by decide +kernel, by decide +kernel, by decide +kernel⟩
theorem lk_RX9_308 : tz_Lv RX9 308 yX9_count cX9_count 2 (some .int) 1 := ⟨tz_in 792 (by decide +kernel) rfl, tz_in 782 (by decide +kernel) rfl, tz_in 783 (by decide +kernel) rfl, tz_in 77 (by decide +kernel) rfl, tz_in 784 (by decide +kernel) rfl, by decide +kernel, by decide +kernel, by decide +kernel⟩
theorem lk_RX10_77 : tz_Ls RX10 77 yX10_in cX10_in 3 (some .boolean) 3 := ⟨tz_in 943 (by decide +kernel) rfl, tz_in 944 (by decide +kernel) rfl, tz_in 87 (by decide +kernel) rfl, tz_in 945 (by decide +kernel) rfl, by decide +kernel, by decide +kernel, by decide +kernel⟩
theorem fl_RX10_81 : tz_Fl RX10 81 10 0 := ⟨(RX10, TX10, 37), rfl, by decide, tz_in 826 (by decide +kernel) rfl, uw_X10⟩
theorem fl_RX10_7 : tz_Fl RX10 7 10 1 := ⟨(RX10, TX10, 37), rfl, by decide, tz_in 827 (by decide +kernel) rfl, uw_X10⟩
theorem fp_RX10_81 : tz_Fp RX10 81 10 0 .int := ⟨(RX10, TX10, 37), rfl, by decide, tz_in 826 (by decide +kernel) rfl, uw_X10, rfl, by decide +kernel, ⟨tyX10, tyX10_ok⟩, nmX10⟩
theorem lk_RX10_85 : tz_Ls RX10 85 yX10_isSetting cX10_isSetting 2 (some .boolean) 2 := ⟨tz_in 958 (by decide +kernel) rfl, tz_in 959 (by decide +kernel) rfl, tz_in 87 (by decide +kernel) rfl, tz_in 960 (by decide +kernel) rfl, by decide +kernel, by decide +kernel, by decide +kernel⟩
theorem fl_RX10_13 : tz_Fl RX10 13 10 2 := ⟨(RX10, TX10, 37), rfl, by decide, tz_in 828 (by decide +kernel) rfl, uw_X10⟩
theorem fl_RX10_89 : tz_Fl RX10 89 10 3 := ⟨(RX10, TX10, 37), rfl, by decide, tz_in 829 (by decide +kernel) rfl, uw_X10⟩
theorem fp_RX10_89 : tz_Fp RX10 89 10 3 .int := ⟨(RX10, TX10, 37), rfl, by decide, tz_in 829 (by decide +kernel) rfl, uw_X10, rfl, by decide +kernel, ⟨tyX10, tyX10_ok⟩, nmX10⟩
theorem lk_RX10_92 : tz_Ls RX10 92 yX10_isSheet cX10_isSheet 1 (some .boolean) 1 := ⟨tz_in 969 (by decide +kernel) rfl, tz_in 970 (by decide +kernel) rfl, tz_in 87 (by decide +kernel) rfl, tz_in 971 (by decide +kernel) rfl, by decide +kernel, by decide +kernel, by decide +kernel⟩
theorem fl_RX10_61 : tz_Fl RX10 61 10 31 := ⟨(RX10, TX10, 37), rfl, by decide, tz_in 857 (by decide +kernel) rfl, uw_X10⟩
theorem fl_RX10_68 : tz_Fl RX10 68 10 33 := ⟨(RX10, TX10, 37), rfl, by decide, tz_in 859 (by decide +kernel) rfl, uw_X10⟩
theorem fl_RX10_71 : tz_Fl RX10 71 10 34 := ⟨(RX10, TX10, 37), rfl, by decide, tz_in 860 (by decide +kernel) rfl, uw_X10⟩
theorem lk_RX10_100 : tz_Lv RX10 100 yX10_type cX10_type 2 (some .int) 1 := ⟨tz_in 976 (by decide +kernel) rfl, tz_in 940 (by decide +kernel) rfl, tz_in 941 (by decide +kernel) rfl, tz_in 87 (by decide +kernel) rfl, tz_in 942 (by decide +kernel) rfl, by decide +kernel, by decide +kernel, by decide +kernel⟩
theorem lk_RX10_96 : tz_Lv RX10 96 yX10_meets cX10_meets 2 (some .int) 1 := ⟨tz_in 972 (by decide +kernel) rfl, tz_in 974 (by decide +kernel) rfl, tz_in 31 (by decide +kernel) rfl, tz_in 87 (by decide +kernel) rfl, tz_in 975 (by decide +kernel) rfl, by decide +kernel, by decide +kernel, by decide +kernel⟩
theorem fp_RX10_267 : tz_Fp RX10 267 10 36 .int := ⟨(RX10, TX10, 37), rfl, by decide, tz_in 862 (by decide +kernel) rfl, uw_X10, rfl, by decide +kernel, ⟨tyX10, tyX10_ok⟩, nmX10⟩
theorem fp_RX10_103 : tz_Fp RX10 103 10 4 .int := ⟨(RX10, TX10, 37), rfl, by decide, tz_in 830 (by decide +kernel) rfl, uw_X10, rfl, by decide +kernel, ⟨tyX10, tyX10_ok⟩, nmX10⟩
theorem fp_RX10_106 : tz_Fp RX10 106 10 5 .int := ⟨(RX10, TX10, 37), rfl, by decide, tz_in 831 (by decide +kernel) rfl, uw_X10, rfl, by decide +kernel, ⟨tyX10, tyX10_ok⟩, nmX10⟩
theorem fl_RX10_109 : tz_Fl RX10 109 10 7 := ⟨(RX10, TX10, 37), rfl, by decide, tz_in 833 (by decide +kernel) rfl, uw_X10⟩
theorem fp_RX10_112 : tz_Fp RX10 112 10 6 .int := ⟨(RX10, TX10, 37), rfl, by decide, tz_in 832 (by decide +kernel) rfl, uw_X10, rfl, by decide +kernel, ⟨tyX10, tyX10_ok⟩, nmX10⟩
theorem fl_RX10_16 : tz_Fl RX10 16 10 10 := ⟨(RX10, TX10, 37), rfl, by decide, tz_in 836 (by decide +kernel) rfl, uw_X10⟩
theorem fl_RX10_115 : tz_Fl RX10 115 10 8 := ⟨(RX10, TX10, 37), rfl, by decide, tz_in 834 (by decide +kernel) rfl, uw_X10⟩
theorem fl_RX10_19 : tz_Fl RX10 19 10 11 := ⟨(RX10, TX10, 37), rfl, by decide, tz_in 837 (by decide +kernel) rfl, uw_X10⟩
theorem fl_RX10_22 : tz_Fl RX10 22 10 12 := ⟨(RX10, TX10, 37), rfl, by decide, tz_in 838 (by decide +kernel) rfl, uw_X10⟩
theorem fp_RX10_115 : tz_Fp RX10 115 10 8 .int := ⟨(RX10, TX10, 37), rfl, by decide, tz_in 834 (by decide +kernel) rfl, uw_X10, rfl, by decide +kernel, ⟨tyX10, tyX10_ok⟩, nmX10⟩
theorem fl_RX10_34 : tz_Fl RX10 34 10 16 := ⟨(RX10, TX10, 37), rfl, by decide, tz_in 842 (by decide +kernel) rfl, uw_X10⟩
theorem fp_RX10_109 : tz_Fp RX10 109 10 7 .int := ⟨(RX10, TX10, 37), rfl, by decide, tz_in 833 (by decide +kernel) rfl, uw_X10, rfl, by decide +kernel, ⟨tyX10, tyX10_ok⟩, nmX10⟩
theorem lk_RX10_122 : tz_Lv RX10 122 yX10_fails cX10_fails 3 (none) 2 := ⟨tz_in 997 (by decide +kernel) rfl, tz_in 999 (by decide +kernel) rfl, tz_in 36 (by decide +kernel) rfl, tz_in 87 (by decide +kernel) rfl, tz_in 1000 (by decide +kernel) rfl, by decide +kernel, by decide +kernel, by decide +kernel⟩
theorem lk_RX10_118 : tz_Lv RX10 118 yX10_whyNot cX10_whyNot 6 (some .int) 4 := ⟨tz_in 993 (by decide +kernel) rfl, tz_in 995 (by decide +kernel) rfl, tz_in 35 (by decide +kernel) rfl, tz_in 87 (by decide +kernel) rfl, tz_in 996 (by decide +kernel) rfl, by decide +kernel, by decide +kernel, by decide +kernel⟩
theorem lk_RX10_126 : tz_Lv RX10 126 yX10_begins cX10_begins 3 (none) 2 := ⟨tz_in 1001 (by decide +kernel) rfl, tz_in 1003 (by decide +kernel) rfl, tz_in 37 (by decide +kernel) rfl, tz_in 87 (by decide +kernel) rfl, tz_in 1004 (by decide +kernel) rfl, by decide +kernel, by decide +kernel, by decide +kernel⟩
theorem lk_RX10_129 : tz_Lv RX10 129 yX10_endsWith cX10_endsWith 4 (some .boolean) 3 := ⟨tz_in 1009 (by decide +kernel) rfl, tz_in 1011 (by decide +kernel) rfl, tz_in 39 (by decide +kernel) rfl, tz_in 87 (by decide +kernel) rfl, tz_in 1012 (by decide +kernel) rfl, by decide +kernel, by decide +kernel, by decide +kernel⟩
theorem fl_RX10_31 : tz_Fl RX10 31 10 15 := ⟨(RX10, TX10, 37), rfl, by decide, tz_in 841 (by decide +kernel) rfl, uw_X10⟩
theorem fl_RX10_28 : tz_Fl RX10 28 10 14 := ⟨(RX10, TX10, 37), rfl, by decide, tz_in 840 (by decide +kernel) rfl, uw_X10⟩
theorem lk_RX10_132 : tz_Lv RX10 132 yX10_readsText cX10_readsText 6 (none) 0 := ⟨tz_in 989 (by decide +kernel) rfl, tz_in 991 (by decide +kernel) rfl, tz_in 34 (by decide +kernel) rfl, tz_in 87 (by decide +kernel) rfl, tz_in 992 (by decide +kernel) rfl, by decide +kernel, by decide +kernel, by decide +kernel⟩
theorem fl_RX10_103 : tz_Fl RX10 103 10 4 := ⟨(RX10, TX10, 37), rfl, by decide, tz_in 830 (by decide +kernel) rfl, uw_X10⟩
theorem fp_RX10_135 : tz_Fp RX10 135 10 9 .int := ⟨(RX10, TX10, 37), rfl, by decide, tz_in 835 (by decide +kernel) rfl, uw_X10, rfl, by decide +kernel, ⟨tyX10, tyX10_ok⟩, nmX10⟩
theorem fp_RX10_144 : tz_Fp RX10 144 10 18 .int := ⟨(RX10, TX10, 37), rfl, by decide, tz_in 844 (by decide +kernel) rfl, uw_X10, rfl, by decide +kernel, ⟨tyX10, tyX10_ok⟩, nmX10⟩
theorem lk_RX10_138 : tz_Lv RX10 138 yX10_longOf cX10_longOf 3 (some .int) 1 := ⟨tz_in 1005 (by decide +kernel) rfl, tz_in 1007 (by decide +kernel) rfl, tz_in 38 (by decide +kernel) rfl, tz_in 87 (by decide +kernel) rfl, tz_in 1008 (by decide +kernel) rfl, by decide +kernel, by decide +kernel, by decide +kernel⟩
theorem fl_RX10_135 : tz_Fl RX10 135 10 9 := ⟨(RX10, TX10, 37), rfl, by decide, tz_in 835 (by decide +kernel) rfl, uw_X10⟩
theorem fl_RX10_25 : tz_Fl RX10 25 10 13 := ⟨(RX10, TX10, 37), rfl, by decide, tz_in 839 (by decide +kernel) rfl, uw_X10⟩
theorem fl_RX10_37 : tz_Fl RX10 37 10 17 := ⟨(RX10, TX10, 37), rfl, by decide, tz_in 843 (by decide +kernel) rfl, uw_X10⟩
theorem lk_RX10_141 : tz_Lv RX10 141 yX10_isLike cX10_isLike 6 (some .boolean) 3 := ⟨tz_in 1013 (by decide +kernel) rfl, tz_in 1015 (by decide +kernel) rfl, tz_in 40 (by decide +kernel) rfl, tz_in 87 (by decide +kernel) rfl, tz_in 1016 (by decide +kernel) rfl, by decide +kernel, by decide +kernel, by decide +kernel⟩
theorem lk_RX10_147 : tz_Lv RX10 147 yX10_reads cX10_reads 4 (none) 0 := ⟨tz_in 985 (by decide +kernel) rfl, tz_in 987 (by decide +kernel) rfl, tz_in 33 (by decide +kernel) rfl, tz_in 87 (by decide +kernel) rfl, tz_in 988 (by decide +kernel) rfl, by decide +kernel, by decide +kernel, by decide +kernel⟩
theorem fl_RX10_112 : tz_Fl RX10 112 10 6 := ⟨(RX10, TX10, 37), rfl, by decide, tz_in 832 (by decide +kernel) rfl, uw_X10⟩
theorem fl_RX10_106 : tz_Fl RX10 106 10 5 := ⟨(RX10, TX10, 37), rfl, by decide, tz_in 831 (by decide +kernel) rfl, uw_X10⟩
theorem lk_RX10_150 : tz_Lv RX10 150 yX10_faultOf cX10_faultOf 2 (some .int) 1 := ⟨tz_in 981 (by decide +kernel) rfl, tz_in 983 (by decide +kernel) rfl, tz_in 32 (by decide +kernel) rfl, tz_in 87 (by decide +kernel) rfl, tz_in 984 (by decide +kernel) rfl, by decide +kernel, by decide +kernel, by decide +kernel⟩
theorem fp_RX10_153 : tz_Fp RX10 153 10 19 .int := ⟨(RX10, TX10, 37), rfl, by decide, tz_in 845 (by decide +kernel) rfl, uw_X10, rfl, by decide +kernel, ⟨tyX10, tyX10_ok⟩, nmX10⟩
theorem fp_RX10_156 : tz_Fp RX10 156 10 20 .int := ⟨(RX10, TX10, 37), rfl, by decide, tz_in 846 (by decide +kernel) rfl, uw_X10, rfl, by decide +kernel, ⟨tyX10, tyX10_ok⟩, nmX10⟩
theorem fp_RX10_159 : tz_Fp RX10 159 10 21 .int := ⟨(RX10, TX10, 37), rfl, by decide, tz_in 847 (by decide +kernel) rfl, uw_X10, rfl, by decide +kernel, ⟨tyX10, tyX10_ok⟩, nmX10⟩
theorem fl_RX10_153 : tz_Fl RX10 153 10 19 := ⟨(RX10, TX10, 37), rfl, by decide, tz_in 845 (by decide +kernel) rfl, uw_X10⟩
theorem fl_RX10_156 : tz_Fl RX10 156 10 20 := ⟨(RX10, TX10, 37), rfl, by decide, tz_in 846 (by decide +kernel) rfl, uw_X10⟩
theorem fl_RX10_159 : tz_Fl RX10 159 10 21 := ⟨(RX10, TX10, 37), rfl, by decide, tz_in 847 (by decide +kernel) rfl, uw_X10⟩
theorem fl_RX10_144 : tz_Fl RX10 144 10 18 := ⟨(RX10, TX10, 37), rfl, by decide, tz_in 844 (by decide +kernel) rfl, uw_X10⟩
theorem lk_RX10_162 : tz_Lv RX10 162 yX10_looksOver cX10_looksOver 6 (none) 2 := ⟨tz_in 1029 (by decide +kernel) rfl, tz_in 1031 (by decide +kernel) rfl, tz_in 43 (by decide +kernel) rfl, tz_in 87 (by decide +kernel) rfl, tz_in 1032 (by decide +kernel) rfl, by decide +kernel, by decide +kernel, by decide +kernel⟩
theorem lk_RX10_165 : tz_Lv RX10 165 yX10_isSentence cX10_isSentence 2 (some .boolean) 1 := ⟨tz_in 1021 (by decide +kernel) rfl, tz_in 1023 (by decide +kernel) rfl, tz_in 41 (by decide +kernel) rfl, tz_in 87 (by decide +kernel) rfl, tz_in 1024 (by decide +kernel) rfl, by decide +kernel, by decide +kernel, by decide +kernel⟩
theorem lk_RX10_168 : tz_Lv RX10 168 yX10_sentenceOf cX10_sentenceOf 3 (some .int) 2 := ⟨tz_in 1025 (by decide +kernel) rfl, tz_in 1027 (by decide +kernel) rfl, tz_in 42 (by decide +kernel) rfl, tz_in 87 (by decide +kernel) rfl, tz_in 1028 (by decide +kernel) rfl, by decide +kernel, by decide +kernel, by decide +kernel⟩
theorem lk_RX10_172 : tz_Lv RX10 172 yX10_wordOf cX10_wordOf 3 (some .int) 2 := ⟨tz_in 1037 (by decide +kernel) rfl, tz_in 1039 (by decide +kernel) rfl, tz_in 44 (by decide +kernel) rfl, tz_in 87 (by decide +kernel) rfl, tz_in 1040 (by decide +kernel) rfl, by decide +kernel, by decide +kernel, by decide +kernel⟩
theorem lk_RX10_175 : tz_Lv RX10 175 yX10_isStem cX10_isStem 2 (some .boolean) 1 := ⟨tz_in 1045 (by decide +kernel) rfl, tz_in 1047 (by decide +kernel) rfl, tz_in 45 (by decide +kernel) rfl, tz_in 87 (by decide +kernel) rfl, tz_in 1048 (by decide +kernel) rfl, by decide +kernel, by decide +kernel, by decide +kernel⟩
theorem lk_RX10_178 : tz_Lv RX10 178 yX10_stemOf cX10_stemOf 8 (some .int) 2 := ⟨tz_in 1049 (by decide +kernel) rfl, tz_in 1051 (by decide +kernel) rfl, tz_in 46 (by decide +kernel) rfl, tz_in 87 (by decide +kernel) rfl, tz_in 1052 (by decide +kernel) rfl, by decide +kernel, by decide +kernel, by decide +kernel⟩
theorem lk_RX10_181 : tz_Lv RX10 181 yX10_letterOf cX10_letterOf 3 (some .int) 2 := ⟨tz_in 1057 (by decide +kernel) rfl, tz_in 1059 (by decide +kernel) rfl, tz_in 47 (by decide +kernel) rfl, tz_in 87 (by decide +kernel) rfl, tz_in 1060 (by decide +kernel) rfl, by decide +kernel, by decide +kernel, by decide +kernel⟩
theorem fl_RX10_40 : tz_Fl RX10 40 10 23 := ⟨(RX10, TX10, 37), rfl, by decide, tz_in 849 (by decide +kernel) rfl, uw_X10⟩
theorem fl_RX10_184 : tz_Fl RX10 184 10 22 := ⟨(RX10, TX10, 37), rfl, by decide, tz_in 848 (by decide +kernel) rfl, uw_X10⟩
theorem fl_RX10_43 : tz_Fl RX10 43 10 24 := ⟨(RX10, TX10, 37), rfl, by decide, tz_in 850 (by decide +kernel) rfl, uw_X10⟩
theorem fl_RX10_46 : tz_Fl RX10 46 10 25 := ⟨(RX10, TX10, 37), rfl, by decide, tz_in 851 (by decide +kernel) rfl, uw_X10⟩
theorem fl_RX10_49 : tz_Fl RX10 49 10 26 := ⟨(RX10, TX10, 37), rfl, by decide, tz_in 852 (by decide +kernel) rfl, uw_X10⟩
theorem fp_RX10_184 : tz_Fp RX10 184 10 22 .int := ⟨(RX10, TX10, 37), rfl, by decide, tz_in 848 (by decide +kernel) rfl, uw_X10, rfl, by decide +kernel, ⟨tyX10, tyX10_ok⟩, nmX10⟩
theorem lk_RX10_187 : tz_Lv RX10 187 yX10_ends cX10_ends 5 (none) 4 := ⟨tz_in 1073 (by decide +kernel) rfl, tz_in 1075 (by decide +kernel) rfl, tz_in 50 (by decide +kernel) rfl, tz_in 87 (by decide +kernel) rfl, tz_in 1076 (by decide +kernel) rfl, by decide +kernel, by decide +kernel, by decide +kernel⟩
theorem lk_RX10_191 : tz_Lv RX10 191 yX10_findsChains cX10_findsChains 7 (none) 0 := ⟨tz_in 1069 (by decide +kernel) rfl, tz_in 1071 (by decide +kernel) rfl, tz_in 49 (by decide +kernel) rfl, tz_in 87 (by decide +kernel) rfl, tz_in 1072 (by decide +kernel) rfl, by decide +kernel, by decide +kernel, by decide +kernel⟩
theorem lk_RX10_194 : tz_Lv RX10 194 yX10_chainsOf cX10_chainsOf 1 (some .int) 0 := ⟨tz_in 1065 (by decide +kernel) rfl, tz_in 1067 (by decide +kernel) rfl, tz_in 48 (by decide +kernel) rfl, tz_in 87 (by decide +kernel) rfl, tz_in 1068 (by decide +kernel) rfl, by decide +kernel, by decide +kernel, by decide +kernel⟩
theorem lk_RX10_198 : tz_Lv RX10 198 yX10_weight cX10_weight 2 (some .int) 1 := ⟨tz_in 1085 (by decide +kernel) rfl, tz_in 1087 (by decide +kernel) rfl, tz_in 52 (by decide +kernel) rfl, tz_in 87 (by decide +kernel) rfl, tz_in 1088 (by decide +kernel) rfl, by decide +kernel, by decide +kernel, by decide +kernel⟩
theorem lk_RX10_201 : tz_Lv RX10 201 yX10_chainOf cX10_chainOf 3 (some .int) 2 := ⟨tz_in 1081 (by decide +kernel) rfl, tz_in 1083 (by decide +kernel) rfl, tz_in 51 (by decide +kernel) rfl, tz_in 87 (by decide +kernel) rfl, tz_in 1084 (by decide +kernel) rfl, by decide +kernel, by decide +kernel, by decide +kernel⟩
theorem lk_RX10_204 : tz_Lv RX10 204 yX10_isGap cX10_isGap 2 (some .boolean) 1 := ⟨tz_in 1093 (by decide +kernel) rfl, tz_in 1095 (by decide +kernel) rfl, tz_in 53 (by decide +kernel) rfl, tz_in 87 (by decide +kernel) rfl, tz_in 1096 (by decide +kernel) rfl, by decide +kernel, by decide +kernel, by decide +kernel⟩
theorem lk_RX10_207 : tz_Ls RX10 207 yX10_isTwo cX10_isTwo 1 (some .boolean) 1 := ⟨tz_in 1097 (by decide +kernel) rfl, tz_in 1098 (by decide +kernel) rfl, tz_in 87 (by decide +kernel) rfl, tz_in 1099 (by decide +kernel) rfl, by decide +kernel, by decide +kernel, by decide +kernel⟩
theorem lk_RX10_210 : tz_Lv RX10 210 yX10_overOf cX10_overOf 7 (some .int) 2 := ⟨tz_in 1100 (by decide +kernel) rfl, tz_in 1102 (by decide +kernel) rfl, tz_in 54 (by decide +kernel) rfl, tz_in 87 (by decide +kernel) rfl, tz_in 1103 (by decide +kernel) rfl, by decide +kernel, by decide +kernel, by decide +kernel⟩
theorem lk_RX10_213 : tz_Lv RX10 213 yX10_costNow cX10_costNow 5 (some .int) 2 := ⟨tz_in 1112 (by decide +kernel) rfl, tz_in 1114 (by decide +kernel) rfl, tz_in 56 (by decide +kernel) rfl, tz_in 87 (by decide +kernel) rfl, tz_in 1115 (by decide +kernel) rfl, by decide +kernel, by decide +kernel, by decide +kernel⟩
theorem lk_RX10_216 : tz_Lv RX10 216 yX10_costOf cX10_costOf 3 (some .int) 2 := ⟨tz_in 1108 (by decide +kernel) rfl, tz_in 1110 (by decide +kernel) rfl, tz_in 55 (by decide +kernel) rfl, tz_in 87 (by decide +kernel) rfl, tz_in 1111 (by decide +kernel) rfl, by decide +kernel, by decide +kernel, by decide +kernel⟩
theorem fp_RX10_219 : tz_Fp RX10 219 10 30 .int := ⟨(RX10, TX10, 37), rfl, by decide, tz_in 856 (by decide +kernel) rfl, uw_X10, rfl, by decide +kernel, ⟨tyX10, tyX10_ok⟩, nmX10⟩
theorem fl_RX10_219 : tz_Fl RX10 219 10 30 := ⟨(RX10, TX10, 37), rfl, by decide, tz_in 856 (by decide +kernel) rfl, uw_X10⟩
theorem fl_RX10_55 : tz_Fl RX10 55 10 28 := ⟨(RX10, TX10, 37), rfl, by decide, tz_in 854 (by decide +kernel) rfl, uw_X10⟩
theorem fl_RX10_58 : tz_Fl RX10 58 10 29 := ⟨(RX10, TX10, 37), rfl, by decide, tz_in 855 (by decide +kernel) rfl, uw_X10⟩
theorem fl_RX10_52 : tz_Fl RX10 52 10 27 := ⟨(RX10, TX10, 37), rfl, by decide, tz_in 853 (by decide +kernel) rfl, uw_X10⟩
theorem lk_RX10_222 : tz_Lv RX10 222 yX10_placeOf cX10_placeOf 2 (some .int) 1 := ⟨tz_in 1135 (by decide +kernel) rfl, tz_in 1137 (by decide +kernel) rfl, tz_in 60 (by decide +kernel) rfl, tz_in 87 (by decide +kernel) rfl, tz_in 1138 (by decide +kernel) rfl, by decide +kernel, by decide +kernel, by decide +kernel⟩
theorem lk_RX10_225 : tz_Lv RX10 225 yX10_parts cX10_parts 9 (none) 0 := ⟨tz_in 1131 (by decide +kernel) rfl, tz_in 1133 (by decide +kernel) rfl, tz_in 59 (by decide +kernel) rfl, tz_in 87 (by decide +kernel) rfl, tz_in 1134 (by decide +kernel) rfl, by decide +kernel, by decide +kernel, by decide +kernel⟩
theorem lk_RX10_228 : tz_Lv RX10 228 yX10_partsTold cX10_partsTold 1 (none) 0 := ⟨tz_in 1127 (by decide +kernel) rfl, tz_in 1129 (by decide +kernel) rfl, tz_in 58 (by decide +kernel) rfl, tz_in 87 (by decide +kernel) rfl, tz_in 1130 (by decide +kernel) rfl, by decide +kernel, by decide +kernel, by decide +kernel⟩
theorem lk_RX10_231 : tz_Lv RX10 231 yX10_totalNow cX10_totalNow 2 (some .int) 1 := ⟨tz_in 1139 (by decide +kernel) rfl, tz_in 1141 (by decide +kernel) rfl, tz_in 61 (by decide +kernel) rfl, tz_in 87 (by decide +kernel) rfl, tz_in 1142 (by decide +kernel) rfl, by decide +kernel, by decide +kernel, by decide +kernel⟩
theorem lk_RX10_234 : tz_Ls RX10 234 yX10_isParts cX10_isParts 1 (some .boolean) 1 := ⟨tz_in 1120 (by decide +kernel) rfl, tz_in 1121 (by decide +kernel) rfl, tz_in 87 (by decide +kernel) rfl, tz_in 1122 (by decide +kernel) rfl, by decide +kernel, by decide +kernel, by decide +kernel⟩
theorem lk_RX10_237 : tz_Lv RX10 237 yX10_bestOf cX10_bestOf 2 (some .int) 1 := ⟨tz_in 1123 (by decide +kernel) rfl, tz_in 1125 (by decide +kernel) rfl, tz_in 57 (by decide +kernel) rfl, tz_in 87 (by decide +kernel) rfl, tz_in 1126 (by decide +kernel) rfl, by decide +kernel, by decide +kernel, by decide +kernel⟩
theorem lk_RX10_240 : tz_Lv RX10 240 yX10_seamNow cX10_seamNow 5 (some .int) 2 := ⟨tz_in 1151 (by decide +kernel) rfl, tz_in 1153 (by decide +kernel) rfl, tz_in 63 (by decide +kernel) rfl, tz_in 87 (by decide +kernel) rfl, tz_in 1154 (by decide +kernel) rfl, by decide +kernel, by decide +kernel, by decide +kernel⟩
theorem lk_RX10_243 : tz_Lv RX10 243 yX10_seamOf cX10_seamOf 3 (some .int) 2 := ⟨tz_in 1147 (by decide +kernel) rfl, tz_in 1149 (by decide +kernel) rfl, tz_in 62 (by decide +kernel) rfl, tz_in 87 (by decide +kernel) rfl, tz_in 1150 (by decide +kernel) rfl, by decide +kernel, by decide +kernel, by decide +kernel⟩
theorem lk_RX10_246 : tz_Lv RX10 246 yX10_bentOf cX10_bentOf 4 (some .int) 0 := ⟨tz_in 1159 (by decide +kernel) rfl, tz_in 1161 (by decide +kernel) rfl, tz_in 64 (by decide +kernel) rfl, tz_in 87 (by decide +kernel) rfl, tz_in 1162 (by decide +kernel) rfl, by decide +kernel, by decide +kernel, by decide +kernel⟩
theorem lk_RX10_249 : tz_Lv RX10 249 yX10_dropOf cX10_dropOf 8 (some .int) 2 := ⟨tz_in 1167 (by decide +kernel) rfl, tz_in 1169 (by decide +kernel) rfl, tz_in 65 (by decide +kernel) rfl, tz_in 87 (by decide +kernel) rfl, tz_in 1170 (by decide +kernel) rfl, by decide +kernel, by decide +kernel, by decide +kernel⟩
theorem lk_RX10_252 : tz_Lv RX10 252 yX10_alike cX10_alike 7 (some .int) 1 := ⟨tz_in 1175 (by decide +kernel) rfl, tz_in 1177 (by decide +kernel) rfl, tz_in 66 (by decide +kernel) rfl, tz_in 87 (by decide +kernel) rfl, tz_in 1178 (by decide +kernel) rfl, by decide +kernel, by decide +kernel, by decide +kernel⟩
theorem lk_RX10_255 : tz_Lv RX10 255 yX10_depth cX10_depth 5 (some .int) 1 := ⟨tz_in 1179 (by decide +kernel) rfl, tz_in 1181 (by decide +kernel) rfl, tz_in 67 (by decide +kernel) rfl, tz_in 87 (by decide +kernel) rfl, tz_in 1182 (by decide +kernel) rfl, by decide +kernel, by decide +kernel, by decide +kernel⟩
theorem lk_RX10_258 : tz_Ls RX10 258 yX10_isIn cX10_isIn 2 (some .boolean) 2 := ⟨tz_in 1191 (by decide +kernel) rfl, tz_in 1192 (by decide +kernel) rfl, tz_in 87 (by decide +kernel) rfl, tz_in 1193 (by decide +kernel) rfl, by decide +kernel, by decide +kernel, by decide +kernel⟩
theorem lk_RX10_261 : tz_Lv RX10 261 yX10_deepOf cX10_deepOf 8 (some .int) 1 := ⟨tz_in 1187 (by decide +kernel) rfl, tz_in 1189 (by decide +kernel) rfl, tz_in 68 (by decide +kernel) rfl, tz_in 87 (by decide +kernel) rfl, tz_in 1190 (by decide +kernel) rfl, by decide +kernel, by decide +kernel, by decide +kernel⟩
theorem lk_RX10_264 : tz_Lv RX10 264 yX10_apartOf cX10_apartOf 9 (some .int) 2 := ⟨tz_in 1198 (by decide +kernel) rfl, tz_in 1200 (by decide +kernel) rfl, tz_in 69 (by decide +kernel) rfl, tz_in 87 (by decide +kernel) rfl, tz_in 1201 (by decide +kernel) rfl, by decide +kernel, by decide +kernel, by decide +kernel⟩
theorem fl_RX10_65 : tz_Fl RX10 65 10 32 := ⟨(RX10, TX10, 37), rfl, by decide, tz_in 858 (by decide +kernel) rfl, uw_X10⟩
theorem lk_RX10_270 : tz_Lv RX10 270 yX10_lacks cX10_lacks 4 (some .int) 3 := ⟨tz_in 1214 (by decide +kernel) rfl, tz_in 1216 (by decide +kernel) rfl, tz_in 70 (by decide +kernel) rfl, tz_in 87 (by decide +kernel) rfl, tz_in 1217 (by decide +kernel) rfl, by decide +kernel, by decide +kernel, by decide +kernel⟩
theorem lk_RX10_274 : tz_Lv RX10 274 yX10_keep cX10_keep 4 (none) 3 := ⟨tz_in 1218 (by decide +kernel) rfl, tz_in 1220 (by decide +kernel) rfl, tz_in 71 (by decide +kernel) rfl, tz_in 87 (by decide +kernel) rfl, tz_in 1221 (by decide +kernel) rfl, by decide +kernel, by decide +kernel, by decide +kernel⟩
theorem cw_RX10_278 : Cond.constant RX10 278 (-2147483648) ∈ tz_TB := tz_in 1226 (by decide +kernel) rfl
theorem fl_RX10_74 : tz_Fl RX10 74 10 35 := ⟨(RX10, TX10, 37), rfl, by decide, tz_in 861 (by decide +kernel) rfl, uw_X10⟩
theorem lk_RX10_279 : tz_Lv RX10 279 yX10_tellOf cX10_tellOf 2 (some .int) 1 := ⟨tz_in 1239 (by decide +kernel) rfl, tz_in 1241 (by decide +kernel) rfl, tz_in 72 (by decide +kernel) rfl, tz_in 87 (by decide +kernel) rfl, tz_in 1242 (by decide +kernel) rfl, by decide +kernel, by decide +kernel, by decide +kernel⟩
theorem fl_RX10_267 : tz_Fl RX10 267 10 36 := ⟨(RX10, TX10, 37), rfl, by decide, tz_in 862 (by decide +kernel) rfl, uw_X10⟩
theorem cw_RX10_282 : Cond.constantLong RX10 282 (31) ∈ tz_TB := tz_in 1248 (by decide +kernel) rfl
theorem lk_RX10_287 : tz_Lv RX10 287 yX10_word cX10_word 3 (some .int) 2 := ⟨tz_in 1255 (by decide +kernel) rfl, tz_in 1034 (by decide +kernel) rfl, tz_in 1035 (by decide +kernel) rfl, tz_in 87 (by decide +kernel) rfl, tz_in 1036 (by decide +kernel) rfl, by decide +kernel, by decide +kernel, by decide +kernel⟩
theorem lk_RX10_290 : tz_Lv RX10 290 yX10_gap cX10_gap 3 (some .int) 2 := ⟨tz_in 1256 (by decide +kernel) rfl, tz_in 1172 (by decide +kernel) rfl, tz_in 1173 (by decide +kernel) rfl, tz_in 87 (by decide +kernel) rfl, tz_in 1174 (by decide +kernel) rfl, by decide +kernel, by decide +kernel, by decide +kernel⟩
theorem lk_RX10_293 : tz_Lv RX10 293 yX10_over cX10_over 3 (some .int) 2 := ⟨tz_in 1257 (by decide +kernel) rfl, tz_in 1090 (by decide +kernel) rfl, tz_in 1091 (by decide +kernel) rfl, tz_in 87 (by decide +kernel) rfl, tz_in 1092 (by decide +kernel) rfl, by decide +kernel, by decide +kernel, by decide +kernel⟩
theorem lk_RX10_296 : tz_Lv RX10 296 yX10_deep cX10_deep 2 (some .int) 1 := ⟨tz_in 1258 (by decide +kernel) rfl, tz_in 1184 (by decide +kernel) rfl, tz_in 1185 (by decide +kernel) rfl, tz_in 87 (by decide +kernel) rfl, tz_in 1186 (by decide +kernel) rfl, by decide +kernel, by decide +kernel, by decide +kernel⟩
theorem lk_RX10_284 : tz_Lv RX10 284 yX10_sentence cX10_sentence 3 (some .int) 2 := ⟨tz_in 1254 (by decide +kernel) rfl, tz_in 1018 (by decide +kernel) rfl, tz_in 1019 (by decide +kernel) rfl, tz_in 87 (by decide +kernel) rfl, tz_in 1020 (by decide +kernel) rfl, by decide +kernel, by decide +kernel, by decide +kernel⟩
theorem cw_RX10_299 : Cond.constantLong RX10 299 (17) ∈ tz_TB := tz_in 1247 (by decide +kernel) rfl
theorem lk_RX10_311 : tz_Lv RX10 311 yX10_partsDigest cX10_partsDigest 7 (some .long) 2 := ⟨tz_in 1263 (by decide +kernel) rfl, tz_in 1265 (by decide +kernel) rfl, tz_in 75 (by decide +kernel) rfl, tz_in 87 (by decide +kernel) rfl, tz_in 1266 (by decide +kernel) rfl, by decide +kernel, by decide +kernel, by decide +kernel⟩
theorem lk_RX10_308 : tz_Lv RX10 308 yX10_stemDigest cX10_stemDigest 7 (some .long) 2 := ⟨tz_in 1259 (by decide +kernel) rfl, tz_in 1261 (by decide +kernel) rfl, tz_in 74 (by decide +kernel) rfl, tz_in 87 (by decide +kernel) rfl, tz_in 1262 (by decide +kernel) rfl, by decide +kernel, by decide +kernel, by decide +kernel⟩
theorem lk_RX10_304 : tz_Lv RX10 304 yX10_sentenceDigest cX10_sentenceDigest 7 (some .long) 2 := ⟨tz_in 1250 (by decide +kernel) rfl, tz_in 1252 (by decide +kernel) rfl, tz_in 73 (by decide +kernel) rfl, tz_in 87 (by decide +kernel) rfl, tz_in 1253 (by decide +kernel) rfl, by decide +kernel, by decide +kernel, by decide +kernel⟩
theorem lk_RX10_301 : tz_Lv RX10 301 yX10_count cX10_count 2 (some .int) 1 := ⟨tz_in 1249 (by decide +kernel) rfl, tz_in 1236 (by decide +kernel) rfl, tz_in 1237 (by decide +kernel) rfl, tz_in 87 (by decide +kernel) rfl, tz_in 1238 (by decide +kernel) rfl, by decide +kernel, by decide +kernel, by decide +kernel⟩
end
