section
-- ===== PART A: goes FIRST, ahead of the names: the tables' words, and 'selects' of the private methods out of them =====
/-- a private method of a class that the tables say can be made, by its rows of tables_1 -/
def lw_okq (q : MethodName × Nat) : Prop := (q.1.cls ≠ "java/lang/invoke/MethodHandle" ∧ q.1.cls ≠ "java/lang/invoke/VarHandle") ∧ Cond.instantiable q.1.cls q.2 ∈ tables_1 ∧ Cond.privateMethod q.1 ∈ tables_1 ∧ Cond.instanceMethod q.1 ∈ tables_1
theorem lw_p0 : lw_okq (⟨"CircleOfLeaves$Headword", "clear", "()V"⟩, 4) := ⟨⟨by decide +kernel, by decide +kernel⟩, List.mem_of_getElem? (i := 27) (by decide +kernel), List.mem_of_getElem? (i := 213) (by decide +kernel), List.mem_of_getElem? (i := 214) (by decide +kernel)⟩
theorem lw_p1 : lw_okq (⟨"CircleOfLeaves$Article", "countReferences", "(LCircleOfLeaves$Fate;)I"⟩, 12) := ⟨⟨by decide +kernel, by decide +kernel⟩, List.mem_of_getElem? (i := 53) (by decide +kernel), List.mem_of_getElem? (i := 227) (by decide +kernel), List.mem_of_getElem? (i := 228) (by decide +kernel)⟩
theorem lw_p2 : lw_okq (⟨"CircleOfLeaves$Article", "isReadIn", "(Z)Z"⟩, 12) := ⟨⟨by decide +kernel, by decide +kernel⟩, List.mem_of_getElem? (i := 53) (by decide +kernel), List.mem_of_getElem? (i := 235) (by decide +kernel), List.mem_of_getElem? (i := 236) (by decide +kernel)⟩
theorem lw_p3 : lw_okq (⟨"CircleOfLeaves", "countBroken", "(LCircleOfLeaves$Article;)I"⟩, 12) := ⟨⟨by decide +kernel, by decide +kernel⟩, List.mem_of_getElem? (i := 19) (by decide +kernel), List.mem_of_getElem? (i := 239) (by decide +kernel), List.mem_of_getElem? (i := 240) (by decide +kernel)⟩
theorem lw_p4 : lw_okq (⟨"CircleOfLeaves", "isBroken", "(LCircleOfLeaves$Reference;)Z"⟩, 12) := ⟨⟨by decide +kernel, by decide +kernel⟩, List.mem_of_getElem? (i := 19) (by decide +kernel), List.mem_of_getElem? (i := 243) (by decide +kernel), List.mem_of_getElem? (i := 244) (by decide +kernel)⟩
theorem lw_p5 : lw_okq (⟨"CircleOfLeaves", "isOfPrintedVolume", "(LCircleOfLeaves$Headword;)Z"⟩, 12) := ⟨⟨by decide +kernel, by decide +kernel⟩, List.mem_of_getElem? (i := 19) (by decide +kernel), List.mem_of_getElem? (i := 249) (by decide +kernel), List.mem_of_getElem? (i := 250) (by decide +kernel)⟩
theorem lw_p6 : lw_okq (⟨"CircleOfLeaves", "volumeOf", "(LCircleOfLeaves$Headword;)I"⟩, 12) := ⟨⟨by decide +kernel, by decide +kernel⟩, List.mem_of_getElem? (i := 19) (by decide +kernel), List.mem_of_getElem? (i := 253) (by decide +kernel), List.mem_of_getElem? (i := 254) (by decide +kernel)⟩
theorem lw_p7 : lw_okq (⟨"CircleOfLeaves$Headword", "firstLetter", "()C"⟩, 4) := ⟨⟨by decide +kernel, by decide +kernel⟩, List.mem_of_getElem? (i := 27) (by decide +kernel), List.mem_of_getElem? (i := 257) (by decide +kernel), List.mem_of_getElem? (i := 258) (by decide +kernel)⟩
theorem lw_p8 : lw_okq (⟨"CircleOfLeaves", "isThere", "(LCircleOfLeaves$Headword;)Z"⟩, 12) := ⟨⟨by decide +kernel, by decide +kernel⟩, List.mem_of_getElem? (i := 19) (by decide +kernel), List.mem_of_getElem? (i := 261) (by decide +kernel), List.mem_of_getElem? (i := 262) (by decide +kernel)⟩
theorem lw_p9 : lw_okq (⟨"CircleOfLeaves", "areAlike", "(LCircleOfLeaves$Headword;LCircleOfLeaves$Headword;)Z"⟩, 12) := ⟨⟨by decide +kernel, by decide +kernel⟩, List.mem_of_getElem? (i := 19) (by decide +kernel), List.mem_of_getElem? (i := 265) (by decide +kernel), List.mem_of_getElem? (i := 266) (by decide +kernel)⟩
theorem lw_p10 : lw_okq (⟨"CircleOfLeaves$Headword", "compareBy", "(ZLCircleOfLeaves$Headword;)I"⟩, 4) := ⟨⟨by decide +kernel, by decide +kernel⟩, List.mem_of_getElem? (i := 27) (by decide +kernel), List.mem_of_getElem? (i := 269) (by decide +kernel), List.mem_of_getElem? (i := 270) (by decide +kernel)⟩
theorem lw_p11 : lw_okq (⟨"CircleOfLeaves", "isContradicted", "(IZ)Z"⟩, 12) := ⟨⟨by decide +kernel, by decide +kernel⟩, List.mem_of_getElem? (i := 19) (by decide +kernel), List.mem_of_getElem? (i := 277) (by decide +kernel), List.mem_of_getElem? (i := 278) (by decide +kernel)⟩
theorem lw_p12 : lw_okq (⟨"java/lang/Throwable", "fillInStackTrace", "(I)Ljava/lang/Throwable;"⟩, 6) := ⟨⟨by decide +kernel, by decide +kernel⟩, List.mem_of_getElem? (i := 340) (by decide +kernel), List.mem_of_getElem? (i := 338) (by decide +kernel), List.mem_of_getElem? (i := 339) (by decide +kernel)⟩
theorem lw_p13 : lw_okq (⟨"CircleOfLeaves$Headword", "add", "(C)V"⟩, 4) := ⟨⟨by decide +kernel, by decide +kernel⟩, List.mem_of_getElem? (i := 27) (by decide +kernel), List.mem_of_getElem? (i := 386) (by decide +kernel), List.mem_of_getElem? (i := 387) (by decide +kernel)⟩
theorem lw_p14 : lw_okq (⟨"CircleOfLeaves$Headword", "hasLetter", "()Z"⟩, 4) := ⟨⟨by decide +kernel, by decide +kernel⟩, List.mem_of_getElem? (i := 27) (by decide +kernel), List.mem_of_getElem? (i := 428) (by decide +kernel), List.mem_of_getElem? (i := 429) (by decide +kernel)⟩
theorem lw_p15 : lw_okq (⟨"CircleOfLeaves$Headword", "take", "(LCircleOfLeaves$Headword;)V"⟩, 4) := ⟨⟨by decide +kernel, by decide +kernel⟩, List.mem_of_getElem? (i := 27) (by decide +kernel), List.mem_of_getElem? (i := 433) (by decide +kernel), List.mem_of_getElem? (i := 434) (by decide +kernel)⟩
def lw_privs_1 : List (MethodName × Nat) := [(⟨"CircleOfLeaves$Headword", "clear", "()V"⟩, 4), (⟨"CircleOfLeaves$Article", "countReferences", "(LCircleOfLeaves$Fate;)I"⟩, 12), (⟨"CircleOfLeaves$Article", "isReadIn", "(Z)Z"⟩, 12), (⟨"CircleOfLeaves", "countBroken", "(LCircleOfLeaves$Article;)I"⟩, 12), (⟨"CircleOfLeaves", "isBroken", "(LCircleOfLeaves$Reference;)Z"⟩, 12), (⟨"CircleOfLeaves", "isOfPrintedVolume", "(LCircleOfLeaves$Headword;)Z"⟩, 12), (⟨"CircleOfLeaves", "volumeOf", "(LCircleOfLeaves$Headword;)I"⟩, 12), (⟨"CircleOfLeaves$Headword", "firstLetter", "()C"⟩, 4), (⟨"CircleOfLeaves", "isThere", "(LCircleOfLeaves$Headword;)Z"⟩, 12), (⟨"CircleOfLeaves", "areAlike", "(LCircleOfLeaves$Headword;LCircleOfLeaves$Headword;)Z"⟩, 12), (⟨"CircleOfLeaves$Headword", "compareBy", "(ZLCircleOfLeaves$Headword;)I"⟩, 4), (⟨"CircleOfLeaves", "isContradicted", "(IZ)Z"⟩, 12), (⟨"java/lang/Throwable", "fillInStackTrace", "(I)Ljava/lang/Throwable;"⟩, 6), (⟨"CircleOfLeaves$Headword", "add", "(C)V"⟩, 4), (⟨"CircleOfLeaves$Headword", "hasLetter", "()Z"⟩, 4), (⟨"CircleOfLeaves$Headword", "take", "(LCircleOfLeaves$Headword;)V"⟩, 4)]
theorem lw_r1 : ∀ q ∈ lw_privs_1, lw_okq q := List.forall_mem_cons.mpr ⟨lw_p0, List.forall_mem_cons.mpr ⟨lw_p1, List.forall_mem_cons.mpr ⟨lw_p2, List.forall_mem_cons.mpr ⟨lw_p3, List.forall_mem_cons.mpr ⟨lw_p4, List.forall_mem_cons.mpr ⟨lw_p5, List.forall_mem_cons.mpr ⟨lw_p6, List.forall_mem_cons.mpr ⟨lw_p7, List.forall_mem_cons.mpr ⟨lw_p8, List.forall_mem_cons.mpr ⟨lw_p9, List.forall_mem_cons.mpr ⟨lw_p10, List.forall_mem_cons.mpr ⟨lw_p11, List.forall_mem_cons.mpr ⟨lw_p12, List.forall_mem_cons.mpr ⟨lw_p13, List.forall_mem_cons.mpr ⟨lw_p14, List.forall_mem_cons.mpr ⟨lw_p15, fun _ h => absurd h List.not_mem_nil⟩⟩⟩⟩⟩⟩⟩⟩⟩⟩⟩⟩⟩⟩⟩⟩
theorem lw_p16 : lw_okq (⟨"CircleOfLeaves", "requireArticle", "(I)V"⟩, 12) := ⟨⟨by decide +kernel, by decide +kernel⟩, List.mem_of_getElem? (i := 19) (by decide +kernel), List.mem_of_getElem? (i := 456) (by decide +kernel), List.mem_of_getElem? (i := 457) (by decide +kernel)⟩
theorem lw_p17 : lw_okq (⟨"CircleOfLeaves$Article", "isBlind", "()Z"⟩, 12) := ⟨⟨by decide +kernel, by decide +kernel⟩, List.mem_of_getElem? (i := 53) (by decide +kernel), List.mem_of_getElem? (i := 473) (by decide +kernel), List.mem_of_getElem? (i := 474) (by decide +kernel)⟩
theorem lw_p18 : lw_okq (⟨"CircleOfLeaves", "requireContributor", "(I)V"⟩, 12) := ⟨⟨by decide +kernel, by decide +kernel⟩, List.mem_of_getElem? (i := 19) (by decide +kernel), List.mem_of_getElem? (i := 519) (by decide +kernel), List.mem_of_getElem? (i := 520) (by decide +kernel)⟩
theorem lw_p19 : lw_okq (⟨"CircleOfLeaves", "isToBeGiven", "(LCircleOfLeaves$Article;)Z"⟩, 12) := ⟨⟨by decide +kernel, by decide +kernel⟩, List.mem_of_getElem? (i := 19) (by decide +kernel), List.mem_of_getElem? (i := 532) (by decide +kernel), List.mem_of_getElem? (i := 533) (by decide +kernel)⟩
theorem lw_p20 : lw_okq (⟨"CircleOfLeaves", "isAmongEnemies", "(LCircleOfLeaves$Article;LCircleOfLeaves$Contributor;)Z"⟩, 12) := ⟨⟨by decide +kernel, by decide +kernel⟩, List.mem_of_getElem? (i := 19) (by decide +kernel), List.mem_of_getElem? (i := 536) (by decide +kernel), List.mem_of_getElem? (i := 537) (by decide +kernel)⟩
theorem lw_p21 : lw_okq (⟨"CircleOfLeaves", "refersTo", "(LCircleOfLeaves$Article;LCircleOfLeaves$Article;)Z"⟩, 12) := ⟨⟨by decide +kernel, by decide +kernel⟩, List.mem_of_getElem? (i := 19) (by decide +kernel), List.mem_of_getElem? (i := 540) (by decide +kernel), List.mem_of_getElem? (i := 541) (by decide +kernel)⟩
theorem lw_p22 : lw_okq (⟨"CircleOfLeaves$Contributor", "addToWrite", "(I)V"⟩, 6) := ⟨⟨by decide +kernel, by decide +kernel⟩, List.mem_of_getElem? (i := 143) (by decide +kernel), List.mem_of_getElem? (i := 545) (by decide +kernel), List.mem_of_getElem? (i := 546) (by decide +kernel)⟩
theorem lw_p23 : lw_okq (⟨"CircleOfLeaves", "beginFirst", "(LCircleOfLeaves$Contributor;)V"⟩, 12) := ⟨⟨by decide +kernel, by decide +kernel⟩, List.mem_of_getElem? (i := 19) (by decide +kernel), List.mem_of_getElem? (i := 549) (by decide +kernel), List.mem_of_getElem? (i := 550) (by decide +kernel)⟩
theorem lw_p24 : lw_okq (⟨"CircleOfLeaves", "columnsOf", "(I)I"⟩, 12) := ⟨⟨by decide +kernel, by decide +kernel⟩, List.mem_of_getElem? (i := 19) (by decide +kernel), List.mem_of_getElem? (i := 553) (by decide +kernel), List.mem_of_getElem? (i := 554) (by decide +kernel)⟩
theorem lw_p25 : lw_okq (⟨"CircleOfLeaves", "worthsIn", "(I)I"⟩, 12) := ⟨⟨by decide +kernel, by decide +kernel⟩, List.mem_of_getElem? (i := 19) (by decide +kernel), List.mem_of_getElem? (i := 557) (by decide +kernel), List.mem_of_getElem? (i := 558) (by decide +kernel)⟩
theorem lw_p26 : lw_okq (⟨"CircleOfLeaves", "comesAhead", "(II)Z"⟩, 12) := ⟨⟨by decide +kernel, by decide +kernel⟩, List.mem_of_getElem? (i := 19) (by decide +kernel), List.mem_of_getElem? (i := 561) (by decide +kernel), List.mem_of_getElem? (i := 562) (by decide +kernel)⟩
theorem lw_p27 : lw_okq (⟨"CircleOfLeaves$Contributor", "monthsFor", "(I)I"⟩, 6) := ⟨⟨by decide +kernel, by decide +kernel⟩, List.mem_of_getElem? (i := 143) (by decide +kernel), List.mem_of_getElem? (i := 565) (by decide +kernel), List.mem_of_getElem? (i := 566) (by decide +kernel)⟩
theorem lw_p28 : lw_okq (⟨"CircleOfLeaves", "endsAnArticle", "(LCircleOfLeaves$Contributor;)Z"⟩, 12) := ⟨⟨by decide +kernel, by decide +kernel⟩, List.mem_of_getElem? (i := 19) (by decide +kernel), List.mem_of_getElem? (i := 588) (by decide +kernel), List.mem_of_getElem? (i := 589) (by decide +kernel)⟩
theorem lw_p29 : lw_okq (⟨"CircleOfLeaves$Contributor", "removeFirst", "()V"⟩, 6) := ⟨⟨by decide +kernel, by decide +kernel⟩, List.mem_of_getElem? (i := 143) (by decide +kernel), List.mem_of_getElem? (i := 592) (by decide +kernel), List.mem_of_getElem? (i := 593) (by decide +kernel)⟩
theorem lw_p30 : lw_okq (⟨"CircleOfLeaves", "requireVolume", "(I)V"⟩, 12) := ⟨⟨by decide +kernel, by decide +kernel⟩, List.mem_of_getElem? (i := 19) (by decide +kernel), List.mem_of_getElem? (i := 604) (by decide +kernel), List.mem_of_getElem? (i := 605) (by decide +kernel)⟩
theorem lw_p31 : lw_okq (⟨"CircleOfLeaves", "putToPressFrom", "(I)I"⟩, 12) := ⟨⟨by decide +kernel, by decide +kernel⟩, List.mem_of_getElem? (i := 19) (by decide +kernel), List.mem_of_getElem? (i := 610) (by decide +kernel), List.mem_of_getElem? (i := 611) (by decide +kernel)⟩
def lw_privs_2 : List (MethodName × Nat) := [(⟨"CircleOfLeaves", "requireArticle", "(I)V"⟩, 12), (⟨"CircleOfLeaves$Article", "isBlind", "()Z"⟩, 12), (⟨"CircleOfLeaves", "requireContributor", "(I)V"⟩, 12), (⟨"CircleOfLeaves", "isToBeGiven", "(LCircleOfLeaves$Article;)Z"⟩, 12), (⟨"CircleOfLeaves", "isAmongEnemies", "(LCircleOfLeaves$Article;LCircleOfLeaves$Contributor;)Z"⟩, 12), (⟨"CircleOfLeaves", "refersTo", "(LCircleOfLeaves$Article;LCircleOfLeaves$Article;)Z"⟩, 12), (⟨"CircleOfLeaves$Contributor", "addToWrite", "(I)V"⟩, 6), (⟨"CircleOfLeaves", "beginFirst", "(LCircleOfLeaves$Contributor;)V"⟩, 12), (⟨"CircleOfLeaves", "columnsOf", "(I)I"⟩, 12), (⟨"CircleOfLeaves", "worthsIn", "(I)I"⟩, 12), (⟨"CircleOfLeaves", "comesAhead", "(II)Z"⟩, 12), (⟨"CircleOfLeaves$Contributor", "monthsFor", "(I)I"⟩, 6), (⟨"CircleOfLeaves", "endsAnArticle", "(LCircleOfLeaves$Contributor;)Z"⟩, 12), (⟨"CircleOfLeaves$Contributor", "removeFirst", "()V"⟩, 6), (⟨"CircleOfLeaves", "requireVolume", "(I)V"⟩, 12), (⟨"CircleOfLeaves", "putToPressFrom", "(I)I"⟩, 12)]
theorem lw_r2 : ∀ q ∈ lw_privs_2, lw_okq q := List.forall_mem_cons.mpr ⟨lw_p16, List.forall_mem_cons.mpr ⟨lw_p17, List.forall_mem_cons.mpr ⟨lw_p18, List.forall_mem_cons.mpr ⟨lw_p19, List.forall_mem_cons.mpr ⟨lw_p20, List.forall_mem_cons.mpr ⟨lw_p21, List.forall_mem_cons.mpr ⟨lw_p22, List.forall_mem_cons.mpr ⟨lw_p23, List.forall_mem_cons.mpr ⟨lw_p24, List.forall_mem_cons.mpr ⟨lw_p25, List.forall_mem_cons.mpr ⟨lw_p26, List.forall_mem_cons.mpr ⟨lw_p27, List.forall_mem_cons.mpr ⟨lw_p28, List.forall_mem_cons.mpr ⟨lw_p29, List.forall_mem_cons.mpr ⟨lw_p30, List.forall_mem_cons.mpr ⟨lw_p31, fun _ h => absurd h List.not_mem_nil⟩⟩⟩⟩⟩⟩⟩⟩⟩⟩⟩⟩⟩⟩⟩⟩
theorem lw_p32 : lw_okq (⟨"CircleOfLeaves$Article", "isReady", "()Z"⟩, 12) := ⟨⟨by decide +kernel, by decide +kernel⟩, List.mem_of_getElem? (i := 53) (by decide +kernel), List.mem_of_getElem? (i := 614) (by decide +kernel), List.mem_of_getElem? (i := 615) (by decide +kernel)⟩
theorem lw_p33 : lw_okq (⟨"CircleOfLeaves$Article", "putToPress", "([I)V"⟩, 12) := ⟨⟨by decide +kernel, by decide +kernel⟩, List.mem_of_getElem? (i := 53) (by decide +kernel), List.mem_of_getElem? (i := 619) (by decide +kernel), List.mem_of_getElem? (i := 620) (by decide +kernel)⟩
theorem lw_p34 : lw_okq (⟨"CircleOfLeaves", "lookAtReferences", "()V"⟩, 12) := ⟨⟨by decide +kernel, by decide +kernel⟩, List.mem_of_getElem? (i := 19) (by decide +kernel), List.mem_of_getElem? (i := 624) (by decide +kernel), List.mem_of_getElem? (i := 625) (by decide +kernel)⟩
theorem lw_p35 : lw_okq (⟨"CircleOfLeaves", "fateOf", "(LCircleOfLeaves$Headword;)LCircleOfLeaves$Fate;"⟩, 12) := ⟨⟨by decide +kernel, by decide +kernel⟩, List.mem_of_getElem? (i := 19) (by decide +kernel), List.mem_of_getElem? (i := 629) (by decide +kernel), List.mem_of_getElem? (i := 630) (by decide +kernel)⟩
theorem lw_p36 : lw_okq (⟨"CircleOfLeaves", "tellFacts", "()I"⟩, 12) := ⟨⟨by decide +kernel, by decide +kernel⟩, List.mem_of_getElem? (i := 19) (by decide +kernel), List.mem_of_getElem? (i := 643) (by decide +kernel), List.mem_of_getElem? (i := 644) (by decide +kernel)⟩
theorem lw_p37 : lw_okq (⟨"CircleOfLeaves", "addErratum", "(I)V"⟩, 12) := ⟨⟨by decide +kernel, by decide +kernel⟩, List.mem_of_getElem? (i := 19) (by decide +kernel), List.mem_of_getElem? (i := 647) (by decide +kernel), List.mem_of_getElem? (i := 648) (by decide +kernel)⟩
theorem lw_p38 : lw_okq (⟨"CircleOfLeaves", "tellPromises", "()I"⟩, 12) := ⟨⟨by decide +kernel, by decide +kernel⟩, List.mem_of_getElem? (i := 19) (by decide +kernel), List.mem_of_getElem? (i := 651) (by decide +kernel), List.mem_of_getElem? (i := 652) (by decide +kernel)⟩
theorem lw_p39 : lw_okq (⟨"CircleOfLeaves", "placeOf", "(I)I"⟩, 12) := ⟨⟨by decide +kernel, by decide +kernel⟩, List.mem_of_getElem? (i := 19) (by decide +kernel), List.mem_of_getElem? (i := 665) (by decide +kernel), List.mem_of_getElem? (i := 666) (by decide +kernel)⟩
theorem lw_p40 : lw_okq (⟨"CircleOfLeaves$Article", "state", "()I"⟩, 12) := ⟨⟨by decide +kernel, by decide +kernel⟩, List.mem_of_getElem? (i := 53) (by decide +kernel), List.mem_of_getElem? (i := 677) (by decide +kernel), List.mem_of_getElem? (i := 678) (by decide +kernel)⟩
theorem lw_p41 : lw_okq (⟨"CircleOfLeaves", "isWithin", "(II)Z"⟩, 12) := ⟨⟨by decide +kernel, by decide +kernel⟩, List.mem_of_getElem? (i := 19) (by decide +kernel), List.mem_of_getElem? (i := 695) (by decide +kernel), List.mem_of_getElem? (i := 696) (by decide +kernel)⟩
theorem lw_p42 : lw_okq (⟨"CircleOfLeavesModel", "goes", "(I)Z"⟩, 30) := ⟨⟨by decide +kernel, by decide +kernel⟩, List.mem_of_getElem? (i := 699) (by decide +kernel), List.mem_of_getElem? (i := 804) (by decide +kernel), List.mem_of_getElem? (i := 805) (by decide +kernel)⟩
theorem lw_p43 : lw_okq (⟨"CircleOfLeavesModel", "firstLetter", "(I)I"⟩, 30) := ⟨⟨by decide +kernel, by decide +kernel⟩, List.mem_of_getElem? (i := 699) (by decide +kernel), List.mem_of_getElem? (i := 826) (by decide +kernel), List.mem_of_getElem? (i := 827) (by decide +kernel)⟩
theorem lw_p44 : lw_okq (⟨"CircleOfLeavesModel", "takes", "(I)V"⟩, 30) := ⟨⟨by decide +kernel, by decide +kernel⟩, List.mem_of_getElem? (i := 699) (by decide +kernel), List.mem_of_getElem? (i := 830) (by decide +kernel), List.mem_of_getElem? (i := 831) (by decide +kernel)⟩
theorem lw_p45 : lw_okq (⟨"CircleOfLeavesModel", "isArticle", "(I)Z"⟩, 30) := ⟨⟨by decide +kernel, by decide +kernel⟩, List.mem_of_getElem? (i := 699) (by decide +kernel), List.mem_of_getElem? (i := 842) (by decide +kernel), List.mem_of_getElem? (i := 843) (by decide +kernel)⟩
theorem lw_p46 : lw_okq (⟨"CircleOfLeavesModel", "isContributor", "(I)Z"⟩, 30) := ⟨⟨by decide +kernel, by decide +kernel⟩, List.mem_of_getElem? (i := 699) (by decide +kernel), List.mem_of_getElem? (i := 876) (by decide +kernel), List.mem_of_getElem? (i := 877) (by decide +kernel)⟩
theorem lw_p47 : lw_okq (⟨"CircleOfLeavesModel", "canBeGiven", "(II)Z"⟩, 30) := ⟨⟨by decide +kernel, by decide +kernel⟩, List.mem_of_getElem? (i := 699) (by decide +kernel), List.mem_of_getElem? (i := 884) (by decide +kernel), List.mem_of_getElem? (i := 885) (by decide +kernel)⟩
def lw_privs_3 : List (MethodName × Nat) := [(⟨"CircleOfLeaves$Article", "isReady", "()Z"⟩, 12), (⟨"CircleOfLeaves$Article", "putToPress", "([I)V"⟩, 12), (⟨"CircleOfLeaves", "lookAtReferences", "()V"⟩, 12), (⟨"CircleOfLeaves", "fateOf", "(LCircleOfLeaves$Headword;)LCircleOfLeaves$Fate;"⟩, 12), (⟨"CircleOfLeaves", "tellFacts", "()I"⟩, 12), (⟨"CircleOfLeaves", "addErratum", "(I)V"⟩, 12), (⟨"CircleOfLeaves", "tellPromises", "()I"⟩, 12), (⟨"CircleOfLeaves", "placeOf", "(I)I"⟩, 12), (⟨"CircleOfLeaves$Article", "state", "()I"⟩, 12), (⟨"CircleOfLeaves", "isWithin", "(II)Z"⟩, 12), (⟨"CircleOfLeavesModel", "goes", "(I)Z"⟩, 30), (⟨"CircleOfLeavesModel", "firstLetter", "(I)I"⟩, 30), (⟨"CircleOfLeavesModel", "takes", "(I)V"⟩, 30), (⟨"CircleOfLeavesModel", "isArticle", "(I)Z"⟩, 30), (⟨"CircleOfLeavesModel", "isContributor", "(I)Z"⟩, 30), (⟨"CircleOfLeavesModel", "canBeGiven", "(II)Z"⟩, 30)]
theorem lw_r3 : ∀ q ∈ lw_privs_3, lw_okq q := List.forall_mem_cons.mpr ⟨lw_p32, List.forall_mem_cons.mpr ⟨lw_p33, List.forall_mem_cons.mpr ⟨lw_p34, List.forall_mem_cons.mpr ⟨lw_p35, List.forall_mem_cons.mpr ⟨lw_p36, List.forall_mem_cons.mpr ⟨lw_p37, List.forall_mem_cons.mpr ⟨lw_p38, List.forall_mem_cons.mpr ⟨lw_p39, List.forall_mem_cons.mpr ⟨lw_p40, List.forall_mem_cons.mpr ⟨lw_p41, List.forall_mem_cons.mpr ⟨lw_p42, List.forall_mem_cons.mpr ⟨lw_p43, List.forall_mem_cons.mpr ⟨lw_p44, List.forall_mem_cons.mpr ⟨lw_p45, List.forall_mem_cons.mpr ⟨lw_p46, List.forall_mem_cons.mpr ⟨lw_p47, fun _ h => absurd h List.not_mem_nil⟩⟩⟩⟩⟩⟩⟩⟩⟩⟩⟩⟩⟩⟩⟩⟩
theorem lw_p48 : lw_okq (⟨"CircleOfLeavesModel", "volumeOf", "(I)I"⟩, 30) := ⟨⟨by decide +kernel, by decide +kernel⟩, List.mem_of_getElem? (i := 699) (by decide +kernel), List.mem_of_getElem? (i := 888) (by decide +kernel), List.mem_of_getElem? (i := 889) (by decide +kernel)⟩
theorem lw_p49 : lw_okq (⟨"CircleOfLeavesModel", "isBarred", "(II)Z"⟩, 30) := ⟨⟨by decide +kernel, by decide +kernel⟩, List.mem_of_getElem? (i := 699) (by decide +kernel), List.mem_of_getElem? (i := 892) (by decide +kernel), List.mem_of_getElem? (i := 893) (by decide +kernel)⟩
theorem lw_p50 : lw_okq (⟨"CircleOfLeavesModel", "refersTo", "(II)Z"⟩, 30) := ⟨⟨by decide +kernel, by decide +kernel⟩, List.mem_of_getElem? (i := 699) (by decide +kernel), List.mem_of_getElem? (i := 896) (by decide +kernel), List.mem_of_getElem? (i := 897) (by decide +kernel)⟩
theorem lw_p51 : lw_okq (⟨"CircleOfLeavesModel", "order", "(II)I"⟩, 30) := ⟨⟨by decide +kernel, by decide +kernel⟩, List.mem_of_getElem? (i := 699) (by decide +kernel), List.mem_of_getElem? (i := 900) (by decide +kernel), List.mem_of_getElem? (i := 901) (by decide +kernel)⟩
theorem lw_p52 : lw_okq (⟨"CircleOfLeavesModel", "next", "(II)I"⟩, 30) := ⟨⟨by decide +kernel, by decide +kernel⟩, List.mem_of_getElem? (i := 699) (by decide +kernel), List.mem_of_getElem? (i := 904) (by decide +kernel), List.mem_of_getElem? (i := 905) (by decide +kernel)⟩
theorem lw_p53 : lw_okq (⟨"CircleOfLeavesModel", "toWrite", "(I)I"⟩, 30) := ⟨⟨by decide +kernel, by decide +kernel⟩, List.mem_of_getElem? (i := 699) (by decide +kernel), List.mem_of_getElem? (i := 908) (by decide +kernel), List.mem_of_getElem? (i := 909) (by decide +kernel)⟩
theorem lw_p54 : lw_okq (⟨"CircleOfLeavesModel", "begins", "(II)V"⟩, 30) := ⟨⟨by decide +kernel, by decide +kernel⟩, List.mem_of_getElem? (i := 699) (by decide +kernel), List.mem_of_getElem? (i := 912) (by decide +kernel), List.mem_of_getElem? (i := 913) (by decide +kernel)⟩
theorem lw_p55 : lw_okq (⟨"CircleOfLeavesModel", "columns", "(I)I"⟩, 30) := ⟨⟨by decide +kernel, by decide +kernel⟩, List.mem_of_getElem? (i := 699) (by decide +kernel), List.mem_of_getElem? (i := 916) (by decide +kernel), List.mem_of_getElem? (i := 917) (by decide +kernel)⟩
theorem lw_p56 : lw_okq (⟨"CircleOfLeavesModel", "isAhead", "(II)Z"⟩, 30) := ⟨⟨by decide +kernel, by decide +kernel⟩, List.mem_of_getElem? (i := 699) (by decide +kernel), List.mem_of_getElem? (i := 920) (by decide +kernel), List.mem_of_getElem? (i := 921) (by decide +kernel)⟩
theorem lw_p57 : lw_okq (⟨"CircleOfLeavesModel", "first", "(I)I"⟩, 30) := ⟨⟨by decide +kernel, by decide +kernel⟩, List.mem_of_getElem? (i := 699) (by decide +kernel), List.mem_of_getElem? (i := 932) (by decide +kernel), List.mem_of_getElem? (i := 933) (by decide +kernel)⟩
theorem lw_p58 : lw_okq (⟨"CircleOfLeavesModel", "prints", "(II)I"⟩, 30) := ⟨⟨by decide +kernel, by decide +kernel⟩, List.mem_of_getElem? (i := 699) (by decide +kernel), List.mem_of_getElem? (i := 940) (by decide +kernel), List.mem_of_getElem? (i := 941) (by decide +kernel)⟩
theorem lw_p59 : lw_okq (⟨"CircleOfLeavesModel", "isPrinted", "(I)Z"⟩, 30) := ⟨⟨by decide +kernel, by decide +kernel⟩, List.mem_of_getElem? (i := 699) (by decide +kernel), List.mem_of_getElem? (i := 944) (by decide +kernel), List.mem_of_getElem? (i := 945) (by decide +kernel)⟩
theorem lw_p60 : lw_okq (⟨"CircleOfLeavesModel", "isPromise", "(I)Z"⟩, 30) := ⟨⟨by decide +kernel, by decide +kernel⟩, List.mem_of_getElem? (i := 699) (by decide +kernel), List.mem_of_getElem? (i := 948) (by decide +kernel), List.mem_of_getElem? (i := 949) (by decide +kernel)⟩
theorem lw_p61 : lw_okq (⟨"CircleOfLeavesModel", "isOpen", "(II)Z"⟩, 30) := ⟨⟨by decide +kernel, by decide +kernel⟩, List.mem_of_getElem? (i := 699) (by decide +kernel), List.mem_of_getElem? (i := 956) (by decide +kernel), List.mem_of_getElem? (i := 957) (by decide +kernel)⟩
theorem lw_p62 : lw_okq (⟨"CircleOfLeavesModel", "opens", "(Z)I"⟩, 30) := ⟨⟨by decide +kernel, by decide +kernel⟩, List.mem_of_getElem? (i := 699) (by decide +kernel), List.mem_of_getElem? (i := 984) (by decide +kernel), List.mem_of_getElem? (i := 985) (by decide +kernel)⟩
theorem lw_p63 : lw_okq (⟨"CircleOfLeavesModel", "contradicts", "(Z)I"⟩, 30) := ⟨⟨by decide +kernel, by decide +kernel⟩, List.mem_of_getElem? (i := 699) (by decide +kernel), List.mem_of_getElem? (i := 992) (by decide +kernel), List.mem_of_getElem? (i := 993) (by decide +kernel)⟩
def lw_privs_4 : List (MethodName × Nat) := [(⟨"CircleOfLeavesModel", "volumeOf", "(I)I"⟩, 30), (⟨"CircleOfLeavesModel", "isBarred", "(II)Z"⟩, 30), (⟨"CircleOfLeavesModel", "refersTo", "(II)Z"⟩, 30), (⟨"CircleOfLeavesModel", "order", "(II)I"⟩, 30), (⟨"CircleOfLeavesModel", "next", "(II)I"⟩, 30), (⟨"CircleOfLeavesModel", "toWrite", "(I)I"⟩, 30), (⟨"CircleOfLeavesModel", "begins", "(II)V"⟩, 30), (⟨"CircleOfLeavesModel", "columns", "(I)I"⟩, 30), (⟨"CircleOfLeavesModel", "isAhead", "(II)Z"⟩, 30), (⟨"CircleOfLeavesModel", "first", "(I)I"⟩, 30), (⟨"CircleOfLeavesModel", "prints", "(II)I"⟩, 30), (⟨"CircleOfLeavesModel", "isPrinted", "(I)Z"⟩, 30), (⟨"CircleOfLeavesModel", "isPromise", "(I)Z"⟩, 30), (⟨"CircleOfLeavesModel", "isOpen", "(II)Z"⟩, 30), (⟨"CircleOfLeavesModel", "opens", "(Z)I"⟩, 30), (⟨"CircleOfLeavesModel", "contradicts", "(Z)I"⟩, 30)]
theorem lw_r4 : ∀ q ∈ lw_privs_4, lw_okq q := List.forall_mem_cons.mpr ⟨lw_p48, List.forall_mem_cons.mpr ⟨lw_p49, List.forall_mem_cons.mpr ⟨lw_p50, List.forall_mem_cons.mpr ⟨lw_p51, List.forall_mem_cons.mpr ⟨lw_p52, List.forall_mem_cons.mpr ⟨lw_p53, List.forall_mem_cons.mpr ⟨lw_p54, List.forall_mem_cons.mpr ⟨lw_p55, List.forall_mem_cons.mpr ⟨lw_p56, List.forall_mem_cons.mpr ⟨lw_p57, List.forall_mem_cons.mpr ⟨lw_p58, List.forall_mem_cons.mpr ⟨lw_p59, List.forall_mem_cons.mpr ⟨lw_p60, List.forall_mem_cons.mpr ⟨lw_p61, List.forall_mem_cons.mpr ⟨lw_p62, List.forall_mem_cons.mpr ⟨lw_p63, fun _ h => absurd h List.not_mem_nil⟩⟩⟩⟩⟩⟩⟩⟩⟩⟩⟩⟩⟩⟩⟩⟩
def lw_privs : List (MethodName × Nat) := lw_privs_1 ++ (lw_privs_2 ++ (lw_privs_3 ++ (lw_privs_4)))
def lw_tbl : List Cond := k2_sels lw_privs ++ tables_1
theorem lw_privs_ok : ∀ q ∈ lw_privs, lw_okq q := by
  show ∀ q ∈ lw_privs_1 ++ (lw_privs_2 ++ (lw_privs_3 ++ (lw_privs_4))), lw_okq q
  exact List.forall_mem_append.mpr ⟨lw_r1, List.forall_mem_append.mpr ⟨lw_r2, List.forall_mem_append.mpr ⟨lw_r3, lw_r4⟩⟩⟩
-- ===== end of PART A; then your names; then what follows =====
end
section
/-! ===== BEGIN words of one list among another's, by their places ===== -/
theorem goodIn_r {big : List Cond} (ws : List Cond) (ps : List Nat) (hp : ws = ps.filterMap (fun i => big[i]?)) (h : ws.all goodWord = true) : GoodIn big ws := by
  intro w hw
  have h1 := List.all_eq_true.mp h w hw
  rw [hp] at hw
  obtain ⟨i, -, hi⟩ := List.mem_filterMap.mp hw
  have hm : w ∈ big := by first | exact List.mem_of_getElem? hi | exact List.getElem?_mem hi
  exact ⟨hm, good_of_word h1⟩
theorem goodIn_app {big a b : List Cond} (ha : GoodIn big a) (hb : GoodIn big b) : GoodIn big (a ++ b) := fun w h => (List.mem_append.mp h).elim (ha w) (hb w)
theorem goodIn_ca {big a b : List Cond} {c : Cond} (ha : GoodIn big (c :: a)) (hb : GoodIn big b) : GoodIn big (c :: (a ++ b)) := fun w h => (List.mem_cons.mp h).elim (fun e => ha w (List.mem_cons.mpr (Or.inl e))) (fun h => (List.mem_append.mp h).elim (fun h => ha w (List.mem_cons.mpr (Or.inr h))) (hb w))
theorem goodIn_sub {big ws : List Cond} (hm : ∀ w ∈ ws, w ∈ big) (h : ws.all goodWord = true) : GoodIn big ws := fun w hw => ⟨hm w hw, good_of_word (List.all_eq_true.mp h w hw)⟩
/-! ===== END ===== -/

/-! ===== BEGIN exceptions that leave a method, and their catching by the caller (launches without stack traces) ===== -/
section VXA
/-! The laws vx_back, vx_callV, vx_callS, vx_callSW, vx_throw0, vx_throwS follow proofs of the library, with one case more: JvmDerived/Free/Laws.lean (Back.of_free), Shelf42/LK1.lean (callV, callS), Shelf/KitTraced.lean (throwNew0V, throwNewS). -/
/-- where a method has thrown q: the class by its name, the cell, what was written, the world -/
def vx_T (XC : String → State → State → Prop) (st : State) (q : Addr) (t : State) (mc ms : Nat) (free : Addr → Prop) : Prop :=
  ∃ (E : String) (ce : Cell) (L : List Loc), XC E st t ∧ t.heap[q]? = some ce ∧ ce.vm = .none ∧ st.vm.findClass E = some ce.cls ∧ st.WarmedH t.vm ∧ st.sameButNew ({ t with vm := st.vm } : State) L mc ms ∧ ∀ z ∈ L, free z.base
def vx_Q (Qc : Array Value → State → Outcome → State → Prop) (XC : String → State → State → Prop) (mc ms : Nat) (free : Addr → Prop) : Array Value → State → Outcome → State → Prop := fun a st o t =>
  (Qc a st o t ∧ ∃ L, FrameEnd st o t L mc ms ∧ ∀ q ∈ L, free q.base) ∨ ∃ q, o = .threw q ∧ vx_T XC st q t mc ms free
/-- a callee that returns or throws -/
def vx_Met (l : Launch) (y : MethodName) (ws : List Cond) (rm : Room) (Pc : Array Value → State → Prop) (Qc : Array Value → State → Outcome → State → Prop) (XC : String → State → State → Prop) (mc ms : Nat) (free : Addr → Prop) : Prop :=
  MetFree l y (headSpec ws rm) Pc (fun _ _ _ _ _ => True) (vx_Q Qc XC mc ms free)
def vx_Post (XC : String → State → State → Prop) (mc ms : Nat) (free : Addr → Prop) : Pt → Array Value → Addr → Pt → Prop := fun A a q B =>
  ∃ (g : JFrame) (mk : MethodId) (t : State) (L : List Loc) (E : String) (ce : Cell), B.U.heap = t.heap ∧ B.U.vm = t.vm ∧ XC E (A.U.calling g mk a) t ∧ t.heap[q]? = some ce ∧ ce.vm = .none ∧ A.U.vm.findClass E = some ce.cls ∧ B.locs = A.locs ++ L ∧ (∀ z ∈ L, free z.base) ∧ B.cells = A.cells + mc ∧ B.slots = A.slots + ms
def vx_Back (l : Launch) (R : Room) (p : Program) (e : Env) (below : List Frame) (s : State) (sargs : Array Value) (y : MethodName) (len W9 : Nat)
    (Pre : Pt → Array Value → Prop) (Post : Pt → Array Value → Option Value → Pt → Prop) (PostX : Pt → Array Value → Addr → Pt → Prop) : Prop :=
  ∀ (m : MethodId) (meth : Method) (c : Code) (A : Pt) (g : JFrame) (ig : Instr) (mk : MethodId) (a : Array Value),
    Stand p l e R s m sargs below meth c A.U A.locs A.cells A.slots → g.method = m → g.locals.size = c.maxLocals → decode c.code g.pc = .ok (ig, len) →
    2 * g.monitorRoom + (g.stack.map fun v => v.category).sum ≤ W9 → A.U.methodNamed? y = some mk → Pre A a →
    (∃ (v : Option Value) (B : Pt), Stand p l e R s m sargs below meth c B.U B.locs B.cells B.slots ∧ Post A a v B ∧
      Steps p.tables e below (doInvoke e (A.U.setTop g) [] mk a).1 (B.U.setTop { g with pc := g.pc + len, stack := v.toList ++ g.stack })) ∨
    (∃ (q : Addr) (B : Pt), Stand p l e R s m sargs below meth c B.U B.locs B.cells B.slots ∧ PostX A a q B ∧
      Steps p.tables e below (doInvoke e (A.U.setTop g) [] mk a).1 ((B.U.setTop g).pushFrame (.throwing q)))
section Payer
variable {l : Launch} {R : Room} {p : Program} {e : Env} {below : List Frame} {s : State} {sargs : Array Value} {y : MethodName} {len W9 : Nat}
theorem vx_back {ws : List Cond} {rm : Room} {Pc : Array Value → State → Prop} {Qc : Array Value → State → Outcome → State → Prop} {XC : String → State → State → Prop} {mc ms : Nat} {free : Addr → Prop} {bytes : ByteArray} {maxL : Nat} {ret : Option FieldType}
    (hM : vx_Met l y ws rm Pc Qc XC mc ms free) (hblind : FrameBlind Pc) (hrc : rm.cells = mc) (hrs : rm.slots = ms)
    (hframes : rm.frames + 1 ≤ R.frames) (hlocals : W9 + (maxL + 11) + rm.locals ≤ R.locals)
    (hws : ∀ w ∈ ws, ∀ a' U, s.WarmedH U.vm → w.before a' U = true) (hcode : Cond.code y bytes maxL ret ∈ ws) (hinit : ∀ a' U, s.WarmedH U.vm → (Cond.initialized y.cls).before a' U = true) :
    vx_Back l R p e below s sargs y len W9 (PreOf R mc ms Pc) (PostOf Qc mc ms free) (vx_Post XC mc ms free) := by
  intro m meth c A g ig mk a X hg hsize hdg hW hn hp
  have h1 : (headSpec ws rm).pre.before a A.U = true := atoms_intro fun w hw => hws w hw _ _ X.warmed
  have h2 : (Cond.code y bytes maxL ret).before a A.U = true := hws _ hcode _ _ X.warmed
  have h3 : (Cond.initialized y.cls).before a A.U = true := hinit _ _ X.warmed
  have h4 : A.cells + (headSpec ws rm).room.cells ≤ R.cells := by rw [show (headSpec ws rm).room.cells = mc from hrc]; exact hp.1
  have h5 : A.slots + (headSpec ws rm).room.slots ≤ R.slots := by rw [show (headSpec ws rm).room.slots = ms from hrs]; exact hp.2.1
  have hPc : Pc a (A.U.calling g mk a) := hblind _ _ _ _ hp.2.2
  obtain ⟨U, Ls, c0, s0⟩ := A
  dsimp only [Pt.U, Pt.locs, Pt.cells, Pt.slots] at h1 h2 h3 h4 h5 X hn hPc ⊢
  obtain ⟨methY, cY, hmY, hcY, -, hlY, -, -, -, -⟩ := Cond.code_spec hn h2
  obtain ⟨kY, hkY, -⟩ := className_of_methodNamed hn
  have hinitY : kY.init = .initialized := Cond.initialized_spec (findClass_of_methodNamed hn) hkY h3
  have h : At U g.method c below := by rw [hg]; exact X.here
  have hlocals9 : W9 + (maxL + 11) + (headSpec ws rm).room.locals ≤ R.locals := hlocals
  have happ : (headSpec ws rm).appliesLoose y e.platform (U.calling g mk a) = true :=
    Spec.appliesLoose_calling (g := g) h hdg hn hkY hinitY
      (X.room_calling (g := g) (R' := (headSpec ws rm).room) hsize hmY hcY hframes (by rw [hlY]; omega) h4 h5) h1
  obtain ⟨mid, hmid⟩ := h.above
  have hfr : (U.setTop g).frames = (.java g :: mid) ++ below := by rw [State.frames_setTop' g h.top, hmid]; rfl
  obtain ⟨o, s₂, hsteps, -, hend, hq⟩ := Steps.callFree hM p X.admits X.cas X.clock (acts := []) hfr happ hPc trivial
  have hq' : vx_Q Qc XC mc ms free a (U.calling g mk a) o s₂ := hq
  rw [State.frames_setTop' g h.top] at hend
  obtain ⟨g₀, hg0⟩ := Option.isSome_iff_exists.mp h.top
  obtain ⟨r, hr⟩ := State.topJava?_eq_some.mp hg0
  have hr' : (({ U with heap := s₂.heap, slotsUsed := s₂.slotsUsed } : State).setVm s₂.vm).frames = .java g₀ :: r := hr
  rcases hq' with ⟨hqc, L, hfe, hL⟩ | ⟨q, rfl, E, ce, L, hx, hce, hcv, hcl, hW₂, hsm, hL⟩
  · obtain ⟨⟨v, rfl⟩, hW₂, e2, q2, q3, q4, q5, q6⟩ := id hfe
    have e3 : s₂ = ({ (U.calling g mk a).setFrames s₂.frames with heap := s₂.heap, slotsUsed := s₂.slotsUsed } : State).setVm s₂.vm := by
      have : s₂ = ({ s₂ with vm := (U.calling g mk a).vm } : State).setVm s₂.vm := rfl
      rw [e2] at this
      exact this
    obtain ⟨c₂, i₂, len₂, hc₂, hd₂, hf₂⟩ := hend
    have hW' : U.WarmedH s₂.vm := hW₂
    have hcc : c₂ = c := by
      have h1 : s₂.code? g.method = U.code? g.method := by
        rw [State.code?_eq, State.code?_eq, hW'.alike.method?]
      exact Option.some.inj (hc₂.symm.trans (h1.trans h.code))
    subst hcc
    have hlen : len₂ = len := by rw [hdg] at hd₂; cases hd₂; rfl
    subst hlen
    have hs₂ : s₂ = (({ U with heap := s₂.heap, slotsUsed := s₂.slotsUsed } : State).setVm s₂.vm).setTop { g with pc := g.pc + len₂, stack := v.toList ++ g.stack } := by
      refine e3.trans ?_
      rw [hf₂, State.calling_eq h.top, State.setFrames_setFrames, State.setTop_of_frames _ hr', hr]
      rfl
    have hsame : U.sameButNew ({ U with heap := s₂.heap, slotsUsed := s₂.slotsUsed } : State) L mc ms := by
      refine ⟨?_, q2, q3, q4, q5, q6⟩
      obtain ⟨t, ht, -⟩ := State.frames_cons hr
      show ({ U with heap := s₂.heap, slotsUsed := s₂.slotsUsed } : State) = { U.setFrames U.frames with heap := s₂.heap, slotsUsed := s₂.slotsUsed }
      rw [State.setFrames_self ht]
    subst hg
    refine Or.inl ⟨v, ⟨(({ U with heap := s₂.heap, slotsUsed := s₂.slotsUsed } : State).setVm s₂.vm), Ls ++ L, c0 + mc, s0 + ms⟩,
      ⟨X.admits, X.cas, X.clock, X.frames, X.room, X.hears, X.method, X.code, (X.here.setHeapUsed s₂.heap s₂.slotsUsed).setVm hW'.alike, X.tail, State.WarmedH.trans X.warmed hW', X.limits, X.bytes, X.same.trans (hsame.setVm s.vm)⟩,
      ⟨g, mk, s₂, L, rfl, rfl, hqc, rfl, hL, rfl, rfl⟩, ?_⟩
    show Steps p.tables e below _ ((({ U with heap := s₂.heap, slotsUsed := s₂.slotsUsed } : State).setVm s₂.vm).setTop { g with pc := g.pc + len₂, stack := v.toList ++ g.stack })
    rw [← hs₂]
    exact hsteps
  · obtain ⟨e2, q2, q3, q4, q5, q6⟩ := id hsm
    have e3 : s₂ = ({ (U.calling g mk a).setFrames s₂.frames with heap := s₂.heap, slotsUsed := s₂.slotsUsed } : State).setVm s₂.vm := by
      have : s₂ = ({ s₂ with vm := (U.calling g mk a).vm } : State).setVm s₂.vm := rfl
      rw [e2] at this
      exact this
    have hf₂ : s₂.frames = .throwing q :: .java g :: U.frames.tail := hend
    have hW' : U.WarmedH s₂.vm := hW₂
    have hs₂ : s₂ = ((({ U with heap := s₂.heap, slotsUsed := s₂.slotsUsed } : State).setVm s₂.vm).setTop g).pushFrame (.throwing q) := by
      refine e3.trans ?_
      rw [hf₂, State.calling_eq h.top, State.setFrames_setFrames, State.pushFrame, State.frames_setTop _ hr', State.setTop_of_frames _ hr', State.setFrames_setFrames, hr]
      rfl
    have hsame : U.sameButNew ({ U with heap := s₂.heap, slotsUsed := s₂.slotsUsed } : State) L mc ms := by
      refine ⟨?_, q2, q3, q4, q5, q6⟩
      obtain ⟨t, ht, -⟩ := State.frames_cons hr
      show ({ U with heap := s₂.heap, slotsUsed := s₂.slotsUsed } : State) = { U.setFrames U.frames with heap := s₂.heap, slotsUsed := s₂.slotsUsed }
      rw [State.setFrames_self ht]
    subst hg
    refine Or.inr ⟨q, ⟨(({ U with heap := s₂.heap, slotsUsed := s₂.slotsUsed } : State).setVm s₂.vm), Ls ++ L, c0 + mc, s0 + ms⟩,
      ⟨X.admits, X.cas, X.clock, X.frames, X.room, X.hears, X.method, X.code, (X.here.setHeapUsed s₂.heap s₂.slotsUsed).setVm hW'.alike, X.tail, State.WarmedH.trans X.warmed hW', X.limits, X.bytes, X.same.trans (hsame.setVm s.vm)⟩,
      ⟨g, mk, s₂, L, E, ce, rfl, rfl, hx, hce, hcv, hcl, rfl, hL, rfl, rfl⟩, ?_⟩
    show Steps p.tables e below _ (((({ U with heap := s₂.heap, slotsUsed := s₂.slotsUsed } : State).setVm s₂.vm).setTop g).pushFrame (.throwing q))
    rw [← hs₂]
    exact hsteps
end Payer
section Calls
variable {p : Program} {l : Launch} {e : Env} {R : Room} {s : State} {m : MethodId} {args : Array Value} {below : List Frame} {meth : Method} {c : Code} {T : State} {locs : List Loc} {cells slots : Nat}
theorem vx_callV (X : Stand p l e R s m args below meth c T locs cells slots) (hexec : p.tables.exec = Jvm.exec) {own C : String} {index : Nat} {y : MethodName} {bytes : ByteArray} {maxL : Nat} {ret : Option FieldType}
    (hown : s.vm.findClass own = some m.cls) (hlink : (Cond.methodLink own index y).before args s = true) (hinst : (Cond.instanceMethod y).before args s = true) (hsel : (Cond.selects C y y).before args s = true)
    (hcode : (Cond.code y bytes maxL ret).before args s = true) (hy : y.cls ≠ "java/lang/invoke/MethodHandle" ∧ y.cls ≠ "java/lang/invoke/VarHandle")
    {W9 : Nat} {Pre : Pt → Array Value → Prop} {Post : Pt → Array Value → Option Value → Pt → Prop} {PostX : Pt → Array Value → Addr → Pt → Prop} (hK : vx_Back l R p e below s args y 3 W9 Pre Post PostX)
    {b : Addr} {cellB : Cell} (hcell : T.heap[b]? = some cellB) (hobj : cellB.vm.isStatics = false) (hcls : s.vm.findClass C = some cellB.cls)
    {g : JFrame} (hg : g.method = m) (hsize : g.locals.size = c.maxLocals) {argsL rest : List Value} (hlen : ∀ sig, parseMethodDescriptor y.desc = some sig → argsL.length = sig.parameters.length)
    (hstack : g.stack = argsL.reverse ++ .ref b :: rest) (hW : 2 * g.monitorRoom + (rest.map fun v => v.category).sum ≤ W9) (hdg : decode c.code g.pc = .ok (.invokevirtual index, 3))
    (hpre : ∀ vm₁, s.WarmedH vm₁ → Pre ⟨T.setVm vm₁, locs, cells, slots⟩ (Value.ref b :: argsL).toArray) :
    (∃ (v : Option Value) (vm₁ : Vm) (B : Pt), s.WarmedH vm₁ ∧ Stand p l e R s m args below meth c B.U B.locs B.cells B.slots ∧ Post ⟨T.setVm vm₁, locs, cells, slots⟩ (Value.ref b :: argsL).toArray v B ∧
      ∀ target, Steps p.tables e below (B.U.setTop { g with pc := g.pc + 3, stack := v.toList ++ rest }) target → Steps p.tables e below (T.setTop g) target) ∨
    (∃ (q : Addr) (vm₁ : Vm) (B : Pt), s.WarmedH vm₁ ∧ Stand p l e R s m args below meth c B.U B.locs B.cells B.slots ∧ PostX ⟨T.setVm vm₁, locs, cells, slots⟩ (Value.ref b :: argsL).toArray q B ∧
      Steps p.tables e below (T.setTop g) ((B.U.setTop { g with stack := rest }).pushFrame (.throwing q))) := by
  obtain ⟨mk, methM, hnamed, hmethM, hstM, habM⟩ := Cond.instanceMethod_spec hinst
  obtain ⟨methM', cM, hmethM', -, -, -, -, -, -, hsigM⟩ := Cond.code_spec hnamed hcode
  cases hmethM.symm.trans hmethM'
  obtain ⟨c2, r2, m2, q1, q2, q3, q4, kP, hkP, hkPi⟩ := Cond.selects_spec hsel
  cases hcls.symm.trans q1
  cases (State.methodFound?_of_named hnamed hy).symm.trans q2
  cases hnamed.symm.trans q3
  have hselP : selectMethod e.platform s.vm cellB.cls mk = .method mk := by rw [Launch.admits_selectMethod X.admits]; exact q4
  obtain ⟨vm₁, X₁, hstep₁⟩ := X.invokevirtual hexec hown hlink hnamed hmethM hstM hkP hkPi hy (a := b) (cell := cellB) hcell
    (fun z h => by rw [h] at hobj; cases hobj) hselP hmethM habM hkP hkPi (g := g) hg (argsL := argsL) (rest := rest) (hlen _ hsigM) hstack hdg
  rcases hK m meth c ⟨T.setVm vm₁, locs, cells, slots⟩ { g with stack := rest } (.invokevirtual index) mk (Value.ref b :: argsL).toArray X₁ hg hsize hdg hW (X₁.named hnamed) (hpre vm₁ X₁.warmed) with ⟨v, B, X', hpost, hsteps⟩ | ⟨q, B, X', hpost, hsteps⟩
  · exact Or.inl ⟨v, vm₁, B, X₁.warmed, X', hpost, fun target h => hstep₁ _ fun acts => by rw [doInvoke_state]; exact hsteps.trans h⟩
  · exact Or.inr ⟨q, vm₁, B, X₁.warmed, X', hpost, hstep₁ _ fun acts => by rw [doInvoke_state]; exact hsteps⟩
theorem vx_callS (X : Stand p l e R s m args below meth c T locs cells slots) (hexec : p.tables.exec = Jvm.exec) {own : String} {index : Nat} {y : MethodName} {bytes : ByteArray} {maxL : Nat} {ret : Option FieldType}
    (hown : s.vm.findClass own = some m.cls) (hlink : (Cond.methodLink own index y).before args s = true) (hstat : (Cond.static y).before args s = true) (hinit : (Cond.initialized y.cls).before args s = true)
    (hcode : (Cond.code y bytes maxL ret).before args s = true) (hy : y.cls ≠ "java/lang/invoke/MethodHandle" ∧ y.cls ≠ "java/lang/invoke/VarHandle")
    {W9 : Nat} {Pre : Pt → Array Value → Prop} {Post : Pt → Array Value → Option Value → Pt → Prop} {PostX : Pt → Array Value → Addr → Pt → Prop} (hK : vx_Back l R p e below s args y 3 W9 Pre Post PostX)
    {g : JFrame} (hg : g.method = m) (hsize : g.locals.size = c.maxLocals) {argsL rest : List Value} (hlen : ∀ sig, parseMethodDescriptor y.desc = some sig → argsL.length = sig.parameters.length)
    (hstack : g.stack = argsL.reverse ++ rest) (hW : 2 * g.monitorRoom + (rest.map fun v => v.category).sum ≤ W9) (hdg : decode c.code g.pc = .ok (.invokestatic index, 3))
    (hpre : ∀ vm₁, s.WarmedH vm₁ → Pre ⟨T.setVm vm₁, locs, cells, slots⟩ argsL.toArray) :
    (∃ (v : Option Value) (vm₁ : Vm) (B : Pt), s.WarmedH vm₁ ∧ Stand p l e R s m args below meth c B.U B.locs B.cells B.slots ∧ Post ⟨T.setVm vm₁, locs, cells, slots⟩ argsL.toArray v B ∧
      ∀ target, Steps p.tables e below (B.U.setTop { g with pc := g.pc + 3, stack := v.toList ++ rest }) target → Steps p.tables e below (T.setTop g) target) ∨
    (∃ (q : Addr) (vm₁ : Vm) (B : Pt), s.WarmedH vm₁ ∧ Stand p l e R s m args below meth c B.U B.locs B.cells B.slots ∧ PostX ⟨T.setVm vm₁, locs, cells, slots⟩ argsL.toArray q B ∧
      Steps p.tables e below (T.setTop g) ((B.U.setTop { g with stack := rest }).pushFrame (.throwing q))) := by
  obtain ⟨mk, hnamed⟩ := Cond.code_named hcode
  obtain ⟨methM, cM, hmethM, -, -, -, -, -, -, hsigM⟩ := Cond.code_spec hnamed hcode
  have hstatic : methM.isStatic = true := Cond.static_spec hnamed hmethM hstat
  obtain ⟨kP, hkP, -⟩ := className_of_methodNamed hnamed
  have hinitP : kP.init = .initialized := Cond.initialized_spec (findClass_of_methodNamed hnamed) hkP hinit
  obtain ⟨vm₁, X₁, hstep₁⟩ := X.invokestatic hexec hown hlink hnamed hmethM hstatic hkP hinitP hy (g := g) hg (argsL := argsL) (rest := rest) (hlen _ hsigM) hstack hdg
  rcases hK m meth c ⟨T.setVm vm₁, locs, cells, slots⟩ { g with stack := rest } (.invokestatic index) mk argsL.toArray X₁ hg hsize hdg hW (X₁.named hnamed) (hpre vm₁ X₁.warmed) with ⟨v, B, X', hpost, hsteps⟩ | ⟨q, B, X', hpost, hsteps⟩
  · exact Or.inl ⟨v, vm₁, B, X₁.warmed, X', hpost, fun target h => hstep₁ _ fun acts => by rw [doInvoke_state]; exact hsteps.trans h⟩
  · exact Or.inr ⟨q, vm₁, B, X₁.warmed, X', hpost, hstep₁ _ fun acts => by rw [doInvoke_state]; exact hsteps⟩
end Calls
theorem vx_cls {s : State} {T : State} {vm₁ : Vm} {E : String} {k : ClassId} (hW : s.WarmedH vm₁) (h : (T.setVm vm₁).vm.findClass E = some k) : s.vm.findClass E = some k := by
  have h1 : vm₁.findClass E = some k := h
  rw [hW.alike.findClass] at h1
  exact h1
/-- the method's frame g, with q thrown over it -/
def vx_W (p : Program) (l : Launch) (e : Env) (R : Room) (s : State) (m : MethodId) (args : Array Value) (below : List Frame) (meth : Method) (c : Code) (H : Heap) (locs : List Loc) (cells slots : Nat) (Q : State → Prop) (g : JFrame) (q : Addr) : Prop :=
  ∀ T : State, T.heap = H → Stand p l e R s m args below meth c T locs cells slots → ∃ t, Steps p.tables e below ((T.setTop g).pushFrame (.throwing q)) t ∧ Q t
def vx_Run (p : Program) (l : Launch) (e : Env) (R : Room) (s : State) (m : MethodId) (args : Array Value) (below : List Frame) (meth : Method) (c : Code) (H : Heap) (locs : List Loc) (cells slots mc ms : Nat) (g : JFrame) (rest : List Value) (Qa : State → Outcome → State → Prop) (XC : String → State → State → Prop) (free : Addr → Prop) : Prop :=
  ∀ T : State, T.heap = H → Stand p l e R s m args below meth c T locs cells slots →
    (∃ (v : Option Value) (st₀ t T' : State) (L : List Loc), st₀.heap = H ∧ Stand p l e R s m args below meth c T' (locs ++ L) (cells + mc) (slots + ms) ∧ (∀ q ∈ L, free q.base) ∧ T'.heap = t.heap ∧ T'.vm = t.vm ∧ Qa st₀ (.returned v) t ∧
      Goes p e below T g T' { g with pc := g.pc + 3, stack := v.toList ++ rest }) ∨
    (∃ (q : Addr) (st₀ t T' : State) (L : List Loc) (E : String) (ce : Cell), st₀.heap = H ∧ Stand p l e R s m args below meth c T' (locs ++ L) (cells + mc) (slots + ms) ∧ (∀ z ∈ L, free z.base) ∧ T'.heap = t.heap ∧ T'.vm = t.vm ∧ XC E st₀ t ∧ t.heap[q]? = some ce ∧ ce.vm = .none ∧ s.vm.findClass E = some ce.cls ∧
      Steps p.tables e below (T.setTop g) ((T'.setTop { g with stack := rest }).pushFrame (.throwing q)))
def vx_X {S : Type} (px : S → Prop) (B : String → S → State → Prop) (A : Nat → Prop) : String → State → State → Prop := fun E st t => ∃ u : S, px u ∧ B E u t ∧ va_F A st t
section Runs
variable {p : Program} {l : Launch} {e : Env} {R : Room} {s : State} {m : MethodId} {args : Array Value} {below : List Frame} {meth : Method} {c : Code} {H : Heap} {locs : List Loc} {cells slots : Nat}
variable {y : MethodName} {bytes cc : ByteArray} {maxL nL mc ms n index : Nat} {ret : Option FieldType} {ws : List Cond} {rm : Room} {Pc : Array Value → State → Prop} {Qc : Array Value → State → Outcome → State → Prop} {XC : String → State → State → Prop} {free : Addr → Prop} {Ts : List Cond} {own C : String} {b : Addr} {As rest : List Value} {g : JFrame}
theorem vx_callBack (cb : CallB R s args own index y bytes maxL ret ws rm mc ms n) (hM : vx_Met l y ws rm Pc Qc XC mc ms free) (hbl : FrameBlind Pc) : vx_Back l R p e below s args y 3 8 (PreOf R mc ms Pc) (PostOf Qc mc ms free) (vx_Post XC mc ms free) := by
  obtain ⟨hrc, hrs, hfr, hlo, hws, hcw, -, hini, -⟩ := cb
  exact vx_back (bytes := bytes) (maxL := maxL) (ret := ret) hM hbl hrc hrs hfr hlo hws hcw (fun a' U hW => word_at hW (Or.inl (by first | rfl | simp [Cond.onTables, Cond.keeps, Cond.steady])) hini)
theorem vx_runV (S : CallFix p m c cc nL s args Ts own) (hM : vx_Met l y ws rm Pc Qc XC mc ms free) (cw : CallW R s args own C index y bytes maxL ret ws rm mc ms n) (hp : PreV s H C b Pc As)
    (hg : g.method = m) (hn : As.length = n) (hsize : g.locals.size = nL) (hstack : g.stack = As.reverse ++ .ref b :: rest) (hW : 2 * g.monitorRoom + (rest.map fun v => v.category).sum ≤ 8) (hdg : decode cc g.pc = .ok (.invokevirtual index, 3)) (hf : cells + mc ≤ R.cells ∧ slots + ms ≤ R.slots) :
    vx_Run p l e R s m args below meth c H locs cells slots mc ms g rest (Qc (Value.ref b :: As).toArray) XC free := by
  have hK : vx_Back l R p e below s args y 3 8 (PreOf R mc ms Pc) (PostOf Qc mc ms free) (vx_Post XC mc ms free) := vx_callBack cw.1 hM hp.1
  obtain ⟨⟨-, -, -, -, -, -, hcode, -, hy, hlen, hl⟩, hin, hse⟩ := cw
  obtain ⟨hx, hb, hml, ho, -⟩ := S
  obtain ⟨-, ⟨cellB, hcB, hoB, hclB⟩, hPc⟩ := hp
  intro T hT X
  rcases vx_callV X hx (C := C) (bytes := bytes) (maxL := maxL) (ret := ret) ho hl hin hse hcode hy hK (by rw [hT]; exact hcB) hoB hclB hg (hsize.trans hml.symm) (argsL := As) (rest := rest) (fun sig h => hn.trans (hlen sig h)) hstack hW (by rw [hb]; exact hdg)
    (fun vm₁ hW₁ => ⟨hf.1, hf.2, hPc (T.setVm vm₁) hT hW₁⟩) with ⟨v, vm₁, ⟨U', l2, c2, s2⟩, hW₁, X', ⟨g', mk, t, L, e1, e2, hq, h1, hL, h2, h3⟩, st⟩ | ⟨q, vm₁, ⟨U', l2, c2, s2⟩, hW₁, X', ⟨g', mk, t, L, E, ce, e1, e2, hq, hce, hcv, hcl, h1, hL, h2, h3⟩, st⟩
  · dsimp only [Pt.U, Pt.locs, Pt.cells, Pt.slots] at X' e1 e2 h1 h2 h3 st
    subst h1; subst h2; subst h3
    exact Or.inl ⟨v, (T.setVm vm₁).calling g' mk (Value.ref b :: As).toArray, t, U', L, hT, X', hL, e1, e2, hq, st⟩
  · dsimp only [Pt.U, Pt.locs, Pt.cells, Pt.slots] at X' e1 e2 h1 h2 h3 st hcl
    subst h1; subst h2; subst h3
    exact Or.inr ⟨q, (T.setVm vm₁).calling g' mk (Value.ref b :: As).toArray, t, U', L, E, ce, hT, X', hL, e1, e2, hq, hce, hcv, vx_cls hW₁ hcl, st⟩
theorem vx_runS (S : CallFix p m c cc nL s args Ts own) (hM : vx_Met l y ws rm Pc Qc XC mc ms free) (cw : CallB R s args own index y bytes maxL ret ws rm mc ms n ∧ (Cond.static y).before args s = true) (hp : PreS s H Pc As)
    (hg : g.method = m) (hn : As.length = n) (hsize : g.locals.size = nL) (hstack : g.stack = As.reverse ++ rest) (hW : 2 * g.monitorRoom + (rest.map fun v => v.category).sum ≤ 8) (hdg : decode cc g.pc = .ok (.invokestatic index, 3)) (hf : cells + mc ≤ R.cells ∧ slots + ms ≤ R.slots) :
    vx_Run p l e R s m args below meth c H locs cells slots mc ms g rest (Qc As.toArray) XC free := by
  have hK : vx_Back l R p e below s args y 3 8 (PreOf R mc ms Pc) (PostOf Qc mc ms free) (vx_Post XC mc ms free) := vx_callBack cw.1 hM hp.1
  obtain ⟨⟨-, -, -, -, -, -, hcode, hini, hy, hlen, hl⟩, hstt⟩ := cw
  obtain ⟨hx, hb, hml, ho, -⟩ := S
  intro T hT X
  rcases vx_callS X hx (bytes := bytes) (maxL := maxL) (ret := ret) ho hl hstt hini hcode hy hK hg (hsize.trans hml.symm) (argsL := As) (rest := rest) (fun sig h => hn.trans (hlen sig h)) hstack hW (by rw [hb]; exact hdg)
    (fun vm₁ hW₁ => ⟨hf.1, hf.2, hp.2 (T.setVm vm₁) hT hW₁⟩) with ⟨v, vm₁, ⟨U', l2, c2, s2⟩, hW₁, X', ⟨g', mk, t, L, e1, e2, hq, h1, hL, h2, h3⟩, st⟩ | ⟨q, vm₁, ⟨U', l2, c2, s2⟩, hW₁, X', ⟨g', mk, t, L, E, ce, e1, e2, hq, hce, hcv, hcl, h1, hL, h2, h3⟩, st⟩
  · dsimp only [Pt.U, Pt.locs, Pt.cells, Pt.slots] at X' e1 e2 h1 h2 h3 st
    subst h1; subst h2; subst h3
    exact Or.inl ⟨v, (T.setVm vm₁).calling g' mk As.toArray, t, U', L, hT, X', hL, e1, e2, hq, st⟩
  · dsimp only [Pt.U, Pt.locs, Pt.cells, Pt.slots] at X' e1 e2 h1 h2 h3 st hcl
    subst h1; subst h2; subst h3
    exact Or.inr ⟨q, (T.setVm vm₁).calling g' mk As.toArray, t, U', L, E, ce, hT, X', hL, e1, e2, hq, hce, hcv, vx_cls hW₁ hcl, st⟩
end Runs
section Rows
variable {p : Program} {l : Launch} {e : Env} {R : Room} {s : State} {m : MethodId} {args : Array Value} {below : List Frame} {meth : Method} {c : Code} {H : Heap} {locs : List Loc} {cells slots : Nat} {Q : State → Prop}
variable {mc ms : Nat} {free : Addr → Prop} {A0 A1 : Nat → Prop} {H0 : Heap} {a : Array Value} {pc : Nat} {ls : Array Slot} {st0 rest : List Value}
theorem vx_keep {st₀ t T' : State} {L : List Loc} (h0 : st₀.heap = H) (e1 : T'.heap = t.heap) (hS : va_S A0 H0 H locs) (hA : ∀ q, q < H.size → A1 q → A0 q) (hf : ∀ q, free q → A0 q) (hL : ∀ q ∈ L, free q.base) (hF : va_F A1 st₀ t) :
    H.size ≤ T'.heap.size ∧ (∀ q : Nat, q < H.size → ¬ A1 q → T'.heap[q]? = H[q]?) ∧ va_S A0 H0 T'.heap (locs ++ L) := by
  obtain ⟨hz, hk⟩ := hF
  rw [h0] at hz hk
  exact ⟨by rw [e1]; exact hz, fun q h1 h2 => by rw [e1]; exact hk q h1 h2,
    ⟨Nat.le_trans hS.1 (by rw [e1]; exact hz), fun q h1 h2 => by rw [e1, hk q (Nat.lt_of_lt_of_le h1 hS.1) (fun z => h2 (hA q (Nat.lt_of_lt_of_le h1 hS.1) z))]; exact hS.2.1 q h1 h2, fun q hq => by
      rcases List.mem_append.mp hq with h | h
      · exact hS.2.2 q h
      · exact hf _ (hL q h)⟩⟩
theorem vx_calli {S SX : Type} {post : Int32 → S → Prop} {px : SX → Prop} {B : S → State → Prop} {BX : String → SX → State → Prop} {AX : Nat → Prop} (hr : vx_Run p l e R s m args below meth c H locs cells slots mc ms (F0 m pc ls st0) rest (va_Qi post B A1 a) (vx_X px BX AX) free) (hS : va_S A0 H0 H locs) (hA : ∀ q, q < H.size → A1 q → A0 q) (hf : ∀ q, free q → A0 q) (hAX : ∀ q, q < H.size → AX q → A0 q)
    (kx : ∀ (E : String) (ce : Cell) (q9 : Addr) (u : SX) (t : State) (H1 : Heap) (locs1 : List Loc), t.heap = H1 → s.vm.Alike t.vm → px u → BX E u t → H.size ≤ H1.size → (∀ q : Nat, q < H.size → ¬ AX q → H1[q]? = H[q]?) → va_S A0 H0 H1 locs1 → H1[q9]? = some ce → ce.vm = .none → s.vm.findClass E = some ce.cls → vx_W p l e R s m args below meth c H1 locs1 (cells + mc) (slots + ms) Q (F0 m pc ls rest) q9)
    (kk : ∀ (r : Int32) (u : S) (t : State) (H1 : Heap) (locs1 : List Loc), t.heap = H1 → s.vm.Alike t.vm → post r u → B u t → H.size ≤ H1.size → (∀ q : Nat, q < H.size → ¬ A1 q → H1[q]? = H[q]?) → va_S A0 H0 H1 locs1 → W p l e R s m args below meth c H1 locs1 (cells + mc) (slots + ms) Q (F0 m (pc + 3) ls (.int r :: rest))) : W p l e R s m args below meth c H locs cells slots Q (F0 m pc ls st0) := by
  intro T hT X
  rcases hr T hT X with ⟨v, st₀, t, T', L, h0, X', hL, e1, e2, ⟨⟨r, u, hv, hp, hb⟩, hF⟩, st⟩ | ⟨q, st₀, t, T', L, E, ce, h0, X', hL, e1, e2, ⟨u, hp, hb, hF⟩, hce, hcv, hcl, st⟩
  · cases hv
    obtain ⟨k1, k2, k3⟩ := vx_keep h0 e1 hS hA hf hL hF
    obtain ⟨t2, a1, b1⟩ := kk r u t T'.heap (locs ++ L) e1.symm (by rw [← e2]; exact X'.warmed.alike) hp hb k1 k2 k3 T' rfl X'
    exact ⟨t2, st t2 a1, b1⟩
  · obtain ⟨k1, k2, k3⟩ := vx_keep h0 e1 hS hAX hf hL hF
    obtain ⟨t2, a1, b1⟩ := kx E ce q u t T'.heap (locs ++ L) e1.symm (by rw [← e2]; exact X'.warmed.alike) hp hb k1 k2 k3 (by rw [e1]; exact hce) hcv hcl T' rfl X'
    exact ⟨t2, st.trans a1, b1⟩
theorem vx_calll {S SX : Type} {post : Int64 → S → Prop} {px : SX → Prop} {B : S → State → Prop} {BX : String → SX → State → Prop} {AX : Nat → Prop} (hr : vx_Run p l e R s m args below meth c H locs cells slots mc ms (F0 m pc ls st0) rest (va_Ql post B A1 a) (vx_X px BX AX) free) (hS : va_S A0 H0 H locs) (hA : ∀ q, q < H.size → A1 q → A0 q) (hf : ∀ q, free q → A0 q) (hAX : ∀ q, q < H.size → AX q → A0 q)
    (kx : ∀ (E : String) (ce : Cell) (q9 : Addr) (u : SX) (t : State) (H1 : Heap) (locs1 : List Loc), t.heap = H1 → s.vm.Alike t.vm → px u → BX E u t → H.size ≤ H1.size → (∀ q : Nat, q < H.size → ¬ AX q → H1[q]? = H[q]?) → va_S A0 H0 H1 locs1 → H1[q9]? = some ce → ce.vm = .none → s.vm.findClass E = some ce.cls → vx_W p l e R s m args below meth c H1 locs1 (cells + mc) (slots + ms) Q (F0 m pc ls rest) q9)
    (kk : ∀ (r : Int64) (u : S) (t : State) (H1 : Heap) (locs1 : List Loc), t.heap = H1 → s.vm.Alike t.vm → post r u → B u t → H.size ≤ H1.size → (∀ q : Nat, q < H.size → ¬ A1 q → H1[q]? = H[q]?) → va_S A0 H0 H1 locs1 → W p l e R s m args below meth c H1 locs1 (cells + mc) (slots + ms) Q (F0 m (pc + 3) ls (.long r :: rest))) : W p l e R s m args below meth c H locs cells slots Q (F0 m pc ls st0) := by
  intro T hT X
  rcases hr T hT X with ⟨v, st₀, t, T', L, h0, X', hL, e1, e2, ⟨⟨r, u, hv, hp, hb⟩, hF⟩, st⟩ | ⟨q, st₀, t, T', L, E, ce, h0, X', hL, e1, e2, ⟨u, hp, hb, hF⟩, hce, hcv, hcl, st⟩
  · cases hv
    obtain ⟨k1, k2, k3⟩ := vx_keep h0 e1 hS hA hf hL hF
    obtain ⟨t2, a1, b1⟩ := kk r u t T'.heap (locs ++ L) e1.symm (by rw [← e2]; exact X'.warmed.alike) hp hb k1 k2 k3 T' rfl X'
    exact ⟨t2, st t2 a1, b1⟩
  · obtain ⟨k1, k2, k3⟩ := vx_keep h0 e1 hS hAX hf hL hF
    obtain ⟨t2, a1, b1⟩ := kx E ce q u t T'.heap (locs ++ L) e1.symm (by rw [← e2]; exact X'.warmed.alike) hp hb k1 k2 k3 (by rw [e1]; exact hce) hcv hcl T' rfl X'
    exact ⟨t2, st.trans a1, b1⟩
theorem vx_callf {S SX : Type} {post : UInt32 → S → Prop} {px : SX → Prop} {B : S → State → Prop} {BX : String → SX → State → Prop} {AX : Nat → Prop} (hr : vx_Run p l e R s m args below meth c H locs cells slots mc ms (F0 m pc ls st0) rest (va_Qf post B A1 a) (vx_X px BX AX) free) (hS : va_S A0 H0 H locs) (hA : ∀ q, q < H.size → A1 q → A0 q) (hf : ∀ q, free q → A0 q) (hAX : ∀ q, q < H.size → AX q → A0 q)
    (kx : ∀ (E : String) (ce : Cell) (q9 : Addr) (u : SX) (t : State) (H1 : Heap) (locs1 : List Loc), t.heap = H1 → s.vm.Alike t.vm → px u → BX E u t → H.size ≤ H1.size → (∀ q : Nat, q < H.size → ¬ AX q → H1[q]? = H[q]?) → va_S A0 H0 H1 locs1 → H1[q9]? = some ce → ce.vm = .none → s.vm.findClass E = some ce.cls → vx_W p l e R s m args below meth c H1 locs1 (cells + mc) (slots + ms) Q (F0 m pc ls rest) q9)
    (kk : ∀ (r : UInt32) (u : S) (t : State) (H1 : Heap) (locs1 : List Loc), t.heap = H1 → s.vm.Alike t.vm → post r u → B u t → H.size ≤ H1.size → (∀ q : Nat, q < H.size → ¬ A1 q → H1[q]? = H[q]?) → va_S A0 H0 H1 locs1 → W p l e R s m args below meth c H1 locs1 (cells + mc) (slots + ms) Q (F0 m (pc + 3) ls (.float r :: rest))) : W p l e R s m args below meth c H locs cells slots Q (F0 m pc ls st0) := by
  intro T hT X
  rcases hr T hT X with ⟨v, st₀, t, T', L, h0, X', hL, e1, e2, ⟨⟨r, u, hv, hp, hb⟩, hF⟩, st⟩ | ⟨q, st₀, t, T', L, E, ce, h0, X', hL, e1, e2, ⟨u, hp, hb, hF⟩, hce, hcv, hcl, st⟩
  · cases hv
    obtain ⟨k1, k2, k3⟩ := vx_keep h0 e1 hS hA hf hL hF
    obtain ⟨t2, a1, b1⟩ := kk r u t T'.heap (locs ++ L) e1.symm (by rw [← e2]; exact X'.warmed.alike) hp hb k1 k2 k3 T' rfl X'
    exact ⟨t2, st t2 a1, b1⟩
  · obtain ⟨k1, k2, k3⟩ := vx_keep h0 e1 hS hAX hf hL hF
    obtain ⟨t2, a1, b1⟩ := kx E ce q u t T'.heap (locs ++ L) e1.symm (by rw [← e2]; exact X'.warmed.alike) hp hb k1 k2 k3 (by rw [e1]; exact hce) hcv hcl T' rfl X'
    exact ⟨t2, st.trans a1, b1⟩
theorem vx_calld {S SX : Type} {post : UInt64 → S → Prop} {px : SX → Prop} {B : S → State → Prop} {BX : String → SX → State → Prop} {AX : Nat → Prop} (hr : vx_Run p l e R s m args below meth c H locs cells slots mc ms (F0 m pc ls st0) rest (va_Qd post B A1 a) (vx_X px BX AX) free) (hS : va_S A0 H0 H locs) (hA : ∀ q, q < H.size → A1 q → A0 q) (hf : ∀ q, free q → A0 q) (hAX : ∀ q, q < H.size → AX q → A0 q)
    (kx : ∀ (E : String) (ce : Cell) (q9 : Addr) (u : SX) (t : State) (H1 : Heap) (locs1 : List Loc), t.heap = H1 → s.vm.Alike t.vm → px u → BX E u t → H.size ≤ H1.size → (∀ q : Nat, q < H.size → ¬ AX q → H1[q]? = H[q]?) → va_S A0 H0 H1 locs1 → H1[q9]? = some ce → ce.vm = .none → s.vm.findClass E = some ce.cls → vx_W p l e R s m args below meth c H1 locs1 (cells + mc) (slots + ms) Q (F0 m pc ls rest) q9)
    (kk : ∀ (r : UInt64) (u : S) (t : State) (H1 : Heap) (locs1 : List Loc), t.heap = H1 → s.vm.Alike t.vm → post r u → B u t → H.size ≤ H1.size → (∀ q : Nat, q < H.size → ¬ A1 q → H1[q]? = H[q]?) → va_S A0 H0 H1 locs1 → W p l e R s m args below meth c H1 locs1 (cells + mc) (slots + ms) Q (F0 m (pc + 3) ls (.double r :: rest))) : W p l e R s m args below meth c H locs cells slots Q (F0 m pc ls st0) := by
  intro T hT X
  rcases hr T hT X with ⟨v, st₀, t, T', L, h0, X', hL, e1, e2, ⟨⟨r, u, hv, hp, hb⟩, hF⟩, st⟩ | ⟨q, st₀, t, T', L, E, ce, h0, X', hL, e1, e2, ⟨u, hp, hb, hF⟩, hce, hcv, hcl, st⟩
  · cases hv
    obtain ⟨k1, k2, k3⟩ := vx_keep h0 e1 hS hA hf hL hF
    obtain ⟨t2, a1, b1⟩ := kk r u t T'.heap (locs ++ L) e1.symm (by rw [← e2]; exact X'.warmed.alike) hp hb k1 k2 k3 T' rfl X'
    exact ⟨t2, st t2 a1, b1⟩
  · obtain ⟨k1, k2, k3⟩ := vx_keep h0 e1 hS hAX hf hL hF
    obtain ⟨t2, a1, b1⟩ := kx E ce q u t T'.heap (locs ++ L) e1.symm (by rw [← e2]; exact X'.warmed.alike) hp hb k1 k2 k3 (by rw [e1]; exact hce) hcv hcl T' rfl X'
    exact ⟨t2, st.trans a1, b1⟩
theorem vx_callv {S SX : Type} {post : S → Prop} {px : SX → Prop} {B : S → State → Prop} {BX : String → SX → State → Prop} {AX : Nat → Prop} (hr : vx_Run p l e R s m args below meth c H locs cells slots mc ms (F0 m pc ls st0) rest (va_Qv post B A1 a) (vx_X px BX AX) free) (hS : va_S A0 H0 H locs) (hA : ∀ q, q < H.size → A1 q → A0 q) (hf : ∀ q, free q → A0 q) (hAX : ∀ q, q < H.size → AX q → A0 q)
    (kx : ∀ (E : String) (ce : Cell) (q9 : Addr) (u : SX) (t : State) (H1 : Heap) (locs1 : List Loc), t.heap = H1 → s.vm.Alike t.vm → px u → BX E u t → H.size ≤ H1.size → (∀ q : Nat, q < H.size → ¬ AX q → H1[q]? = H[q]?) → va_S A0 H0 H1 locs1 → H1[q9]? = some ce → ce.vm = .none → s.vm.findClass E = some ce.cls → vx_W p l e R s m args below meth c H1 locs1 (cells + mc) (slots + ms) Q (F0 m pc ls rest) q9)
    (kk : ∀ (u : S) (t : State) (H1 : Heap) (locs1 : List Loc), t.heap = H1 → s.vm.Alike t.vm → post u → B u t → H.size ≤ H1.size → (∀ q : Nat, q < H.size → ¬ A1 q → H1[q]? = H[q]?) → va_S A0 H0 H1 locs1 → W p l e R s m args below meth c H1 locs1 (cells + mc) (slots + ms) Q (F0 m (pc + 3) ls (rest))) : W p l e R s m args below meth c H locs cells slots Q (F0 m pc ls st0) := by
  intro T hT X
  rcases hr T hT X with ⟨v, st₀, t, T', L, h0, X', hL, e1, e2, ⟨⟨u, hv, hp, hb⟩, hF⟩, st⟩ | ⟨q, st₀, t, T', L, E, ce, h0, X', hL, e1, e2, ⟨u, hp, hb, hF⟩, hce, hcv, hcl, st⟩
  · cases hv
    obtain ⟨k1, k2, k3⟩ := vx_keep h0 e1 hS hA hf hL hF
    obtain ⟨t2, a1, b1⟩ := kk u t T'.heap (locs ++ L) e1.symm (by rw [← e2]; exact X'.warmed.alike) hp hb k1 k2 k3 T' rfl X'
    exact ⟨t2, st t2 a1, b1⟩
  · obtain ⟨k1, k2, k3⟩ := vx_keep h0 e1 hS hAX hf hL hF
    obtain ⟨t2, a1, b1⟩ := kx E ce q u t T'.heap (locs ++ L) e1.symm (by rw [← e2]; exact X'.warmed.alike) hp hb k1 k2 k3 (by rw [e1]; exact hce) hcv hcl T' rfl X'
    exact ⟨t2, st.trans a1, b1⟩
/-- caught by the row x of this method's table; the rows ahead don't take it -/
theorem vx_catch {own name : String} {E : String} {ce : Cell} {q : Addr} (hown : s.vm.findClass own = some m.cls) (pre : List ExceptionTableEntry) (x : ExceptionTableEntry) (suf : List ExceptionTableEntry) (hsplit : c.exceptionTable.toList = pre ++ x :: suf)
    (hpass : ∀ z ∈ pre, covers z pc = false ∨ (z.catchType ≠ 0 ∧ ∃ nm : String, (Cond.classLink own z.catchType nm).before args s = true ∧ va_Nc E nm s)) (hx : covers x pc = true) (h0 : x.catchType ≠ 0)
    (hlink : (Cond.classLink own x.catchType name).before args s = true) (hcast : (Cond.castable E name).before args s = true) (hcell : H[q]? = some ce) (hv : ce.vm = .none) (hcl : s.vm.findClass E = some ce.cls)
    (kk : W p l e R s m args below meth c H locs cells slots Q (F0 m x.handlerPc ls [.ref q])) : vx_W p l e R s m args below meth c H locs cells slots Q (F0 m pc ls rest) q := by
  intro T hT X
  have hpl : e.platform.magicAccessors = ({} : Platform).magicAccessors := by rw [X.admits.platform]
  obtain ⟨c3, c4, hc3, hc4, hasg⟩ := Cond.castable_spec hcast
  cases Option.some.inj (hc3.symm.trans hcl)
  obtain ⟨c5, hc5, hcl5⟩ := Cond.classLink_spec hown hlink e.platform hpl
  cases Option.some.inj (hc4.symm.trans hc5)
  obtain ⟨vm', X', st⟩ := X.thenCaughtThrough q (g := F0 m pc ls rest) rfl (Steps.refl _) (by rw [hT]; exact hcell) (by rw [hv]; rfl) (by obtain ⟨k9, h9, -⟩ := Vm.findClass_spec hcl; exact ⟨k9, h9⟩) pre x suf hsplit
    (fun z hz => by
      rcases hpass z hz with h | ⟨hz0, nm, hl1, hn1⟩
      · exact Or.inl h
      · obtain ⟨c6, hc6, hcl6⟩ := Cond.classLink_spec hown hl1 e.platform hpl
        obtain ⟨a8, b8, h1, h2, h3⟩ := hn1
        cases Option.some.inj (h1.symm.trans hcl)
        cases Option.some.inj (h2.symm.trans hc6)
        exact Or.inr ⟨hz0, _, hcl6, h3⟩) hx (Or.inr ⟨h0, c4, hcl5, hasg⟩)
  obtain ⟨t, a1, b1⟩ := kk (T.setVm vm') hT X'
  exact ⟨t, st.trans a1, b1⟩
end Rows
section Ends
variable {p : Program} {l : Launch} {e : Env} {R : Room} {s : State} {m : MethodId} {args : Array Value} {below : List Frame} {meth : Method} {c : Code} {H : Heap} {locs : List Loc} {cells slots : Nat} {Q : State → Prop}
variable {mc ms : Nat} {free : Addr → Prop} {A0 A1 : Nat → Prop} {H0 : Heap} {a : Array Value} {ls : Array Slot} {st0 rest : List Value}
variable {Qc : Array Value → State → Outcome → State → Prop} {XC : String → State → State → Prop}
/-- what a body that may throw owes at its end -/
def vx_MQ (below : List Frame) (Qc : Array Value → State → Outcome → State → Prop) (XC : String → State → State → Prop) (a : Array Value) (s : State) (mc ms : Nat) (free : Addr → Prop) : State → Prop := fun t =>
  ∃ o, t.status = .running ∧ Ended t below o ∧ vx_Q Qc XC mc ms free a s o t
theorem vx_ret {g : JFrame} {mc ms : Nat} (k : W p l e R s m args below meth c H locs cells slots (MQ below Qc args s mc ms free) g) : W p l e R s m args below meth c H locs cells slots (vx_MQ below Qc XC args s mc ms free) g := by
  intro T hT X
  obtain ⟨t, a1, o, b1, b2, b3, b4⟩ := k T hT X
  exact ⟨t, a1, o, b1, b2, Or.inl ⟨b3, b4⟩⟩
/-- not caught here: it goes on to the caller -/
theorem vx_widen {g : JFrame} {q : Addr} {k n : Nat} (h1 : cells ≤ k) (h2 : slots ≤ n) (kk : vx_W p l e R s m args below meth c H locs k n Q g q) : vx_W p l e R s m args below meth c H locs cells slots Q g q := fun T hT X => kk T hT (stand_widen X h1 h2)
theorem vx_out {pc : Nat} {E : String} {ce : Cell} {q : Addr} {mc ms : Nat} (hout : ∀ x ∈ c.exceptionTable.toList, covers x pc = false) (hlocks : meth.locks = false) (hcell : H[q]? = some ce) (hv : ce.vm = .none) (hcl : s.vm.findClass E = some ce.cls)
    (hx : ∀ t : State, t.heap = H → s.vm.Alike t.vm → XC E s t) (hf : ∀ z ∈ locs, free z.base) (hc : cells ≤ mc) (hs : slots ≤ ms) :
    vx_W p l e R s m args below meth c H locs cells slots (vx_MQ below Qc XC args s mc ms free) (F0 m pc ls rest) q := by
  intro T hT X
  obtain ⟨st1, hrun, hend, hW, hsm⟩ := X.leaveThrown q (g := F0 m pc ls rest) rfl rfl rfl hout hlocks
  have hcell9 : (T.setFrames (.throwing q :: below)).heap[q]? = some ce := by
    show T.heap[q]? = some ce
    rw [hT]; exact hcell
  exact ⟨_, st1, .threw q, hrun, hend, Or.inr ⟨q, rfl, E, ce, locs, hx _ hT hW.alike, hcell9, hv, hcl, hW, hsm.mono hc hs, hf⟩⟩
theorem vx_frame {U : State} {k n : Nat} (h : s.sameButNew ({ U with vm := s.vm } : State) locs k n) : s.heap.size ≤ U.heap.size ∧ ∀ q : Nat, q < s.heap.size → (∀ z ∈ locs, z.base ≠ q) → U.heap[q]? = s.heap[q]? := by
  obtain ⟨-, h2, -, -, -, h6⟩ := h
  refine ⟨h2, fun q hq hz => ?_⟩
  obtain ⟨c9, e1, e2, e3, e4⟩ := h6 q _ (Array.getElem?_eq_getElem hq)
  have hs : c9.slots = (s.heap[q]).slots := Array.ext_getElem? fun i => e4 i fun hm => hz _ hm rfl
  have h9 : c9 = s.heap[q] := by
    rw [hs] at e2
    exact e2
  have e5 : U.heap[q]? = some c9 := e1
  rw [e5, h9, Array.getElem?_eq_getElem hq]
/-- the words of a throw but the four that speak of the heap -/
def vx_no (w : Cond) : Bool := decide (w ≠ .isRef (.static Bundle.tN "UNASSIGNED_STACK" Bundle.steD)) && decide (w ≠ .isRef (.static Bundle.tN "SUPPRESSED_SENTINEL" Bundle.listD)) && decide (w ≠ .laysStatic Bundle.tN "UNASSIGNED_STACK" Bundle.steD) && decide (w ≠ .laysStatic Bundle.tN "SUPPRESSED_SENTINEL" Bundle.listD)
def vx_at0 (own : String) (ic : Nat) (X : String) (names : List String) : List Cond := (Bundle.ownAtoms0 own ic X names).filter vx_no
def vx_atS (own : String) (ic : Nat) (X : String) (names : List String) : List Cond := (Bundle.ownAtoms own ic X names).filter vx_no
/-- a word that the tables alone decide, or a good one -/
def vx_ot (w : Cond) : Bool := w.onTables || goodWord w
theorem vx_ot_at {args a' : Array Value} {s U : State} {w : Cond} (hW : s.WarmedH U.vm) (hvm : s.vm = U.vm) (hg : vx_ot w = true) (h : w.before args s = true) : w.before a' U = true := by
  simp only [vx_ot, Bool.or_eq_true] at hg
  rcases hg with hg | hg
  · exact va_tabs hg hvm h
  · exact word_at hW (good_of_word hg) h
/-- a list's words: the good ones out of the method's own list, the others by premises of their own -/
theorem vx_hat {args : Array Value} {s : State} {L B : List Cond} (h1 : ∀ w ∈ L.filter goodWord, w.before args s = true) (h2 : ∀ w ∈ L.filter (fun w => !goodWord w), w ∈ B) (h3 : ∀ w ∈ B, w.before args s = true) : ∀ w ∈ L, w.before args s = true := by
  intro w hw
  by_cases g : goodWord w = true
  · exact h1 w (List.mem_filter.mpr ⟨hw, g⟩)
  · refine h3 w (h2 w (List.mem_filter.mpr ⟨hw, ?_⟩))
    show (!goodWord w) = true
    cases hgw : goodWord w
    · rfl
    · exact absurd hgw g
theorem vx_c {args : Array Value} {s : State} {w : Cond} {B : List Cond} (h : w.before args s = true) (t : ∀ w ∈ B, w.before args s = true) : ∀ w' ∈ w :: B, w'.before args s = true := fun w' h' => (List.mem_cons.mp h').elim (fun e => by rw [e]; exact h) (t w')
theorem vx_n {args : Array Value} {s : State} : ∀ w ∈ ([] : List Cond), w.before args s = true := fun _ h => nomatch h
theorem vx_own {args : Array Value} {s : State} {L : List Cond} (h1 : ∀ w ∈ L.filter vx_no, w.before args s = true)
    (hU : (Cond.isRef (.static Bundle.tN "UNASSIGNED_STACK" Bundle.steD)).before args s = true) (hN : (Cond.isRef (.static Bundle.tN "SUPPRESSED_SENTINEL" Bundle.listD)).before args s = true)
    (lU : (Cond.laysStatic Bundle.tN "UNASSIGNED_STACK" Bundle.steD).before args s = true) (lN : (Cond.laysStatic Bundle.tN "SUPPRESSED_SENTINEL" Bundle.listD).before args s = true) : ∀ w ∈ L, w.before args s = true := by
  intro w hw
  by_cases e1 : w = .isRef (.static Bundle.tN "UNASSIGNED_STACK" Bundle.steD)
  · rw [e1]; exact hU
  · by_cases e2 : w = .isRef (.static Bundle.tN "SUPPRESSED_SENTINEL" Bundle.listD)
    · rw [e2]; exact hN
    · by_cases e3 : w = .laysStatic Bundle.tN "UNASSIGNED_STACK" Bundle.steD
      · rw [e3]; exact lU
      · by_cases e4 : w = .laysStatic Bundle.tN "SUPPRESSED_SENTINEL" Bundle.listD
        · rw [e4]; exact lN
        · exact h1 w (List.mem_filter.mpr ⟨hw, by unfold vx_no; rw [decide_eq_true e1, decide_eq_true e2, decide_eq_true e3, decide_eq_true e4]; rfl⟩)
/-- where a static field lies, its class's statics cell in H -/
def vx_L (C n d : String) (A : Nat → Prop) (U : State) (H : Heap) : Prop := ∃ (c : ClassId) (k : Class) (i : Nat) (f : Field) (a : Nat) (cell : Cell), U.vm.findClass C = some c ∧ U.fieldFound? C n d = some (c, k, i, f) ∧ f.isStatic = true ∧ k.statics = some a ∧ H[a]? = some cell ∧ cell.vm.isStatics = true ∧ cell.cls = c ∧ f.slot < cell.slots.size ∧ k.staticTypes[f.slot]? = some f.type ∧ ¬ A a
theorem vx_L.moved {C n d : String} {A : Nat → Prop} {u U : State} {H : Heap} (hvm : u.vm.Alike U.vm) (h : vx_L C n d A u H) : vx_L C n d A U H := by
  obtain ⟨c, k, i, f, a, cell, h1, h2, h3, h4, h5, h6, h7, h8, h9, h10⟩ := h
  obtain ⟨k', hi', he⟩ := State.fieldFound?_setVm hvm h2
  exact ⟨c, k', i, f, a, cell, by rw [hvm.findClass]; exact h1, hi', h3, by rw [he]; exact h4, h5, h6, h7, h8, by rw [he]; exact h9, h10⟩
theorem vx_L.kept {C n d : String} {A : Nat → Prop} {U : State} {H H1 : Heap} (h : vx_L C n d A U H) (hq : ∀ a : Nat, a < H.size → ¬ A a → H1[a]? = H[a]?) : vx_L C n d A U H1 := by
  obtain ⟨c, k, i, f, a, cell, h1, h2, h3, h4, h5, h6, h7, h8, h9, h10⟩ := h
  exact ⟨c, k, i, f, a, cell, h1, h2, h3, h4, by rw [hq a (Array.getElem?_eq_some_iff.mp h5).1 h10]; exact h5, h6, h7, h8, h9, h10⟩
theorem vx_L.narrow {C n d : String} {A B : Nat → Prop} {U : State} {H : Heap} (h : vx_L C n d A U H) (hAB : ∀ q, B q → A q) : vx_L C n d B U H := by
  obtain ⟨c, k, i, f, a, cell, h1, h2, h3, h4, h5, h6, h7, h8, h9, h10⟩ := h
  exact ⟨c, k, i, f, a, cell, h1, h2, h3, h4, h5, h6, h7, h8, h9, fun z => h10 (hAB _ z)⟩
theorem vx_L.word {C n d : String} {A : Nat → Prop} {s : State} {args : Array Value} (h : vx_L C n d A s s.heap) : (Cond.laysStatic C n d).before args s = true := by
  obtain ⟨c, k, i, f, a, cell, h1, h2, h3, h4, h5, h6, h7, h8, h9, -⟩ := h
  show (Cond.laysStatic C n d).holds args s none s [] = true
  exact Cond.laysStatic_of h1 h2 h3 h4 h5 h6 h7 h8 h9
/-- .. and what it holds: null or some reference -/
def vx_Zq (C n d : String) (A : Nat → Prop) (U : State) (H : Heap) : Prop := va_Zq C n d A U H ∧ vx_L C n d A U H
theorem vx_Zq.moved {C n d : String} {A : Nat → Prop} {u U : State} {H : Heap} (hvm : u.vm.Alike U.vm) (h : vx_Zq C n d A u H) : vx_Zq C n d A U H := ⟨va_Zq.moved hvm h.1, vx_L.moved hvm h.2⟩
theorem vx_Zq.kept {C n d : String} {A : Nat → Prop} {U : State} {H H1 : Heap} (h : vx_Zq C n d A U H) (hq : ∀ a : Nat, a < H.size → ¬ A a → H1[a]? = H[a]?) : vx_Zq C n d A U H1 := ⟨va_Zq.kept h.1 hq, vx_L.kept h.2 hq⟩
theorem vx_Zq.narrow {C n d : String} {A B : Nat → Prop} {U : State} {H : Heap} (h : vx_Zq C n d A U H) (hAB : ∀ q, B q → A q) : vx_Zq C n d B U H := ⟨va_Zq.narrow h.1 hAB, vx_L.narrow h.2 hAB⟩
theorem vx_Zqof {args : Array Value} {s : State} {C n d : String} {A : Nat → Prop} (hl : (Cond.laysStatic C n d).before args s = true) (hini : (Cond.initialized C).before args s = true) (h : (Cond.isRef (.static C n d)).before args s = true) (hA : ∀ a : Nat, a < s.heap.size → ¬ A a) : vx_Zq C n d A s s.heap := by
  refine ⟨va_Zqof hl hini h hA, ?_⟩
  obtain ⟨c, k, i, f, a, cell, h1, h2, h3, h4, h5, h6, h7, h8, h9⟩ := Cond.laysStatic_spec hl
  exact ⟨c, k, i, f, a, cell, h1, h2, h3, h4, h5, h6, h7, h8, h9, hA a (Array.getElem?_eq_some_iff.mp h5).1⟩
theorem vx_isRef {C n d : String} {v : Value} {A : Nat → Prop} {s : State} {args : Array Value} (h : va_Z C n d v A s s.heap) (hv : v.isRef = true) : (Cond.isRef (.static C n d)).before args s = true := by
  obtain ⟨cf, kf, fi, f, a, cell, h1, h2, h3, h4, h5, h6, h7, -⟩ := h
  have he : (Term.static C n d).eval args s none [] s = some v := by
    simp [Term.eval, State.fieldNamed?, h1, h2, h4, h5, h6, h7]
  simp only [Cond.before, Cond.holds, Cond.value, he]
  cases v <;> simp_all [Value.isRef]
theorem vx_isRefq {C n d : String} {A : Nat → Prop} {s : State} {args : Array Value} (h : va_Zq C n d A s s.heap) : (Cond.isRef (.static C n d)).before args s = true := by
  rcases h with h | ⟨t, h⟩
  · exact vx_isRef h rfl
  · exact vx_isRef h rfl
/-- the same frame, seen from here: as if the method were called anew in this heap -/
theorem vx_rebase {T : State} (X : Stand p l e R s m args below meth c T locs cells slots) {R' : Room} (hf : R'.frames ≤ R.frames) (hl : R'.locals ≤ R.locals) (hc : cells + R'.cells ≤ R.cells) (hs : slots + R'.slots ≤ R.slots) :
    Stand p l e R' ((T.setVm s.vm).setFrames (.invoking m args :: below)) m args below meth c T [] 0 0 := by
  have htop : (T.setVm s.vm).topJava?.isSome := X.here.top
  have hF : ((T.setVm s.vm).setFrames (.invoking m args :: below)).frames = .invoking m args :: below := State.frames_setFrames _ (State.cur_lt_of_top htop)
  obtain ⟨g₀, hg0⟩ := Option.isSome_iff_exists.mp htop
  obtain ⟨r, hr⟩ := State.topJava?_eq_some.mp hg0
  have hl9 : e.platform.stackLimits (T.setVm s.vm).me = e.platform.stackLimits s.me := X.limits
  have hb9 : (T.setVm s.vm).me.stackBytes = s.me.stackBytes := X.bytes
  refine ⟨X.admits, X.cas, X.clock, hF, ?_, X.hears, X.method, X.code, X.here, X.tail, X.warmed, ?_, ?_, ?_⟩
  · have h := X.room
    have hU : ((T.setVm s.vm).setFrames (.invoking m args :: below)).localsInUse = s.localsInUse := by
      rw [State.localsInUse_invoking hF (meth := meth) (c := c) X.method X.code, State.localsInUse_invoking X.frames X.method X.code]
    simp only [State.hasRoom, Bool.and_eq_true, decide_eq_true_eq] at h ⊢
    obtain ⟨⟨⟨⟨h1, h2, h3, h4, h5, h6⟩, h7⟩, h8⟩, h9⟩ := h
    rw [X.frames, List.length_cons] at h2 h3
    have q1 := X.heapSize
    have q2 := X.used
    simp only [hF, hU, List.length_cons, State.stackLimits_setFrames, State.stackBytes_setFrames, hl9, hb9]
    refine ⟨⟨⟨⟨by omega, by omega, by omega, by omega, by omega, h6⟩, ?_⟩, ?_⟩, X.book⟩
    · show T.heap.size + R'.cells ≤ e.platform.maxCells
      omega
    · show T.slotsUsed + R'.slots ≤ e.platform.maxSlots
      omega
  · rw [State.stackLimits_setFrames]; rfl
  · rw [State.stackBytes_setFrames]; rfl
  · refine ⟨?_, Nat.le_refl _, Nat.le_refl _, ?_, ?_, fun a c9 h9 => ⟨c9, h9, rfl, rfl, fun _ _ => rfl⟩⟩
    · obtain ⟨t, ht, -⟩ := State.frames_cons hr
      show T.setVm s.vm = { ((T.setVm s.vm).setFrames (.invoking m args :: below)).setFrames (T.setVm s.vm).frames with heap := T.heap, slotsUsed := T.slotsUsed }
      rw [State.setFrames_setFrames, State.setFrames_self ht]
      rfl
    · show T.slotsUsed = T.slotsUsed + ((T.heap.toList.drop T.heap.size).map (·.slots.size)).sum
      rw [List.drop_eq_nil_of_le (Nat.le_of_eq Array.length_toList)]
      rfl
    · show ((T.heap.toList.drop T.heap.size).map (·.slots.size)).sum ≤ 0
      rw [List.drop_eq_nil_of_le (Nat.le_of_eq Array.length_toList)]
      exact Nat.le_refl _
/-- 'throw new E()': new; dup; invokespecial; athrow -/
theorem vx_throw0 {cc : ByteArray} {pc : Nat} (hexec : p.tables.exec = Jvm.exec) (hb : c.code = cc) (hl : l.stackTraces = false) {own cls : String} {names : List String} {ik ic mc ms : Nat} {A : Nat → Prop}
    (hown : s.vm.findClass own = some m.cls) (hcls : Bundle.fit cls = true) (hnames : ∀ n ∈ names, Bundle.fit n = true)
    (hk : (Cond.classLink own ik cls).before args s = true) (hini : (Cond.initialized cls).before args s = true) (hat : ∀ w ∈ vx_at0 own ic cls names, w.before args s = true)
    (hgood : ∀ w ∈ Cond.classLink own ik cls :: Cond.initialized cls :: vx_at0 own ic cls names, vx_ot w = true)
    (hU : vx_Zq Bundle.tN "UNASSIGNED_STACK" Bundle.steD A s s.heap) (hN : vx_Zq Bundle.tN "SUPPRESSED_SENTINEL" Bundle.listD A s s.heap) (hS : va_S A s.heap H locs) (hsize : ls.size = c.maxLocals)
    (d0 : decode cc pc = .ok (.new ik, 3)) (d3 : decode cc (pc + 3) = .ok (.dup, 1)) (d4 : decode cc (pc + 4) = .ok (.invokespecial ic, 3)) (d7 : decode cc (pc + 7) = .ok (.athrow, 1))
    (hout : ∀ x ∈ c.exceptionTable.toList, covers x (pc + 7) = false)
    (hRframes : names.length + 3 < R.frames) (hRlocals : (rest.map fun v => v.category).sum + (13 * (names.length + 1) + 42) ≤ R.locals) (hRcells : cells + 1 ≤ R.cells) (hRslots : slots + 6 ≤ R.slots) (hlocks : meth.locks = false)
    (hx : ∀ t : State, s.vm.Alike t.vm → H.size ≤ t.heap.size → (∀ q : Nat, q < H.size → t.heap[q]? = H[q]?) → XC cls s t)
    (hf : ∀ z ∈ locs, free z.base) (hc : cells + 1 ≤ mc) (hs : slots + 6 ≤ ms) :
    W p l e R s m args below meth c H locs cells slots (vx_MQ below Qc XC args s mc ms free) (F0 m pc ls rest) := by
  intro T hT X
  have htr : e.platform.stackTraces = false := (show e.platform.stackTraces = l.stackTraces by rw [X.admits.platform]).trans hl
  have Y := vx_rebase X (R' := { frames := R.frames, locals := R.locals, cells := 1, slots := 6 }) (Nat.le_refl _) (Nat.le_refl _) hRcells hRslots
  obtain ⟨s', hA⟩ : ∃ z, z = (T.setVm s.vm).setFrames (.invoking m args :: below) := ⟨_, rfl⟩
  rw [← hA] at Y
  have hvm : s'.vm = s.vm := by rw [hA]; rfl
  have hhp : s'.heap = H := by rw [hA]; exact hT
  have hW0 : s.WarmedH s'.vm := by rw [hvm]; exact State.WarmedH.refl s
  have hat' : ∀ w ∈ vx_at0 own ic cls names, w.before args s' = true := fun w hw => vx_ot_at hW0 hvm.symm (hgood w (List.mem_cons_of_mem _ (List.mem_cons_of_mem _ hw))) (hat w hw)
  have hk' : (Cond.classLink own ik cls).before args s' = true := vx_ot_at hW0 hvm.symm (hgood _ List.mem_cons_self) hk
  have hini' : (Cond.initialized cls).before args s' = true := vx_ot_at hW0 hvm.symm (hgood _ (List.mem_cons_of_mem _ List.mem_cons_self)) hini
  have hU' : vx_Zq Bundle.tN "UNASSIGNED_STACK" Bundle.steD A s' s'.heap := by rw [hhp]; exact vx_Zq.moved hW0.alike (hU.kept hS.2.1)
  have hN' : vx_Zq Bundle.tN "SUPPRESSED_SENTINEL" Bundle.listD A s' s'.heap := by rw [hhp]; exact vx_Zq.moved hW0.alike (hN.kept hS.2.1)
  have h : ∀ w ∈ Bundle.ownAtoms0 own ic cls names, w.before args s' = true := vx_own hat' (vx_isRefq hU'.1) (vx_isRefq hN'.1) hU'.2.word hN'.2.word
  have hown' : s'.vm.findClass own = some m.cls := by rw [hvm]; exact hown
  have hins : (Cond.instantiable cls 6).before args s' = true := h _ (by simp [Bundle.ownAtoms0])
  obtain ⟨vm₁, cX, kX, hfX, hkX, -, -, X₁, st1⟩ := Y.newCold hexec (own := own) (C := cls) (index := ik) (n := 6) hown' hk' hins hini'
    (g := F0 m pc ls rest) rfl (by rw [hb]; exact d0) (Nat.le_refl _) (Nat.le_refl _)
  generalize hT1 : (T.setVm vm₁).pushCell { cls := cX, slots := kX.instanceTypes.map defaultValue, vm := .none } = T1 at X₁ st1
  have hcat : (Value.ref T.heap.size).category = 1 := rfl
  have hcellA : T1.heap[T.heap.size]? = some (freshCell cX kX) := by rw [← hT1]; exact State.heap_pushCell_size _ _
  have d3' : decode c.code (pc + 3) = .ok (.dup, 1) := by rw [hb]; exact d3
  obtain ⟨U, hsteps, hrun, hend, hW, hsame, ce, hce, hO⟩ := X₁.ctorThrow0 hexec htr (own := own) (cls := cls) (names := names) (ic := ic) hown' hcls hnames h (fun x hx => nomatch hx) hfX hkX hcellA (by rw [hhp, hT]; exact Nat.le_refl _)
    (g := { method := m, pc := pc + 4, locals := ls, stack := .ref T.heap.size :: .ref T.heap.size :: rest, locked := none }) rfl hsize rfl rfl (rest := rest) rfl
    (by rw [hb]; exact d4) (by rw [hb]; exact d7) hout hRframes (by simp only [List.map_cons, List.sum_cons, hcat]; omega) hlocks
  obtain ⟨f1, f2⟩ := vx_frame hsame
  rw [hhp] at f1 f2
  have hWs : s.WarmedH U.vm := State.WarmedH.trans hW0 hW
  have hcl : s.vm.findClass cls = some ce.cls := by
    have h9 := hO.cls
    rw [hvm] at h9
    exact h9
  have hall : s.sameButNew ({ U with vm := s.vm } : State) locs mc ms := by
    subst hA
    obtain ⟨e1, e2⟩ := hsame
    rw [State.setFrames_setFrames] at e1
    have h2 : (T.setVm s.vm).sameButNew ({ U with vm := s.vm } : State) [] (0 + 1) (0 + 6) := ⟨e1, e2⟩
    have h3 := X.same.trans h2
    rw [List.append_nil] at h3
    exact h3.mono hc hs
  refine ⟨U, ?_, .threw T.heap.size, hrun, hend, Or.inr ⟨T.heap.size, rfl, cls, ce, locs, hx U hWs.alike f1 (fun q hq => f2 q hq (fun z hz => nomatch hz)), hce, hO.vm, hcl, hWs, hall, hf⟩⟩
  refine st1 _ ?_
  show Steps p.tables e below (T1.setTop { method := m, pc := pc + 3, locals := ls, stack := .ref T.heap.size :: rest, locked := none }) _
  jvm_step X₁.here [X₁.here.top, hexec, d3', Value.category]
  exact hsteps
/-- 'throw new E("text")': new; dup; ldc; invokespecial; athrow -/
theorem vx_throwS {cc : ByteArray} {pc : Nat} (hexec : p.tables.exec = Jvm.exec) (hb : c.code = cc) (hl : l.stackTraces = false) {own cls text : String} {names : List String} {ik is ic mc ms sa : Nat} {A : Nat → Prop}
    (hown : s.vm.findClass own = some m.cls) (hcls : Bundle.fit cls = true) (hnames : ∀ n ∈ names, Bundle.fit n = true)
    (hk : (Cond.classLink own ik cls).before args s = true) (hini : (Cond.initialized cls).before args s = true) (hstr : vk_R own is text sa s) (hat : ∀ w ∈ vx_atS own ic cls names, w.before args s = true)
    (hgood : ∀ w ∈ Cond.classLink own ik cls :: Cond.initialized cls :: vx_atS own ic cls names, vx_ot w = true)
    (hU : vx_Zq Bundle.tN "UNASSIGNED_STACK" Bundle.steD A s s.heap) (hN : vx_Zq Bundle.tN "SUPPRESSED_SENTINEL" Bundle.listD A s s.heap) (hS : va_S A s.heap H locs) (hsize : ls.size = c.maxLocals)
    (d0 : decode cc pc = .ok (.new ik, 3)) (d3 : decode cc (pc + 3) = .ok (.dup, 1)) (d4 : decode cc (pc + 4) = .ok (.ldc is, 2)) (d6 : decode cc (pc + 6) = .ok (.invokespecial ic, 3)) (d9 : decode cc (pc + 9) = .ok (.athrow, 1))
    (hout : ∀ x ∈ c.exceptionTable.toList, covers x (pc + 9) = false)
    (hRframes : names.length + 3 < R.frames) (hRlocals : (rest.map fun v => v.category).sum + (13 * (names.length + 1) + 43) ≤ R.locals) (hRcells : cells + 1 ≤ R.cells) (hRslots : slots + 6 ≤ R.slots) (hlocks : meth.locks = false)
    (hx : ∀ t : State, s.vm.Alike t.vm → H.size ≤ t.heap.size → (∀ q : Nat, q < H.size → t.heap[q]? = H[q]?) → XC cls s t)
    (hf : ∀ z ∈ locs, free z.base) (hc : cells + 1 ≤ mc) (hs : slots + 6 ≤ ms) :
    W p l e R s m args below meth c H locs cells slots (vx_MQ below Qc XC args s mc ms free) (F0 m pc ls rest) := by
  intro T hT X
  have htr : e.platform.stackTraces = false := (show e.platform.stackTraces = l.stackTraces by rw [X.admits.platform]).trans hl
  have Y := vx_rebase X (R' := { frames := R.frames, locals := R.locals, cells := 1, slots := 6 }) (Nat.le_refl _) (Nat.le_refl _) hRcells hRslots
  obtain ⟨s', hA⟩ : ∃ z, z = (T.setVm s.vm).setFrames (.invoking m args :: below) := ⟨_, rfl⟩
  rw [← hA] at Y
  have hvm : s'.vm = s.vm := by rw [hA]; rfl
  have hhp : s'.heap = H := by rw [hA]; exact hT
  have hW0 : s.WarmedH s'.vm := by rw [hvm]; exact State.WarmedH.refl s
  have hat' : ∀ w ∈ vx_atS own ic cls names, w.before args s' = true := fun w hw => vx_ot_at hW0 hvm.symm (hgood w (List.mem_cons_of_mem _ (List.mem_cons_of_mem _ hw))) (hat w hw)
  have hk' : (Cond.classLink own ik cls).before args s' = true := vx_ot_at hW0 hvm.symm (hgood _ List.mem_cons_self) hk
  have hini' : (Cond.initialized cls).before args s' = true := vx_ot_at hW0 hvm.symm (hgood _ (List.mem_cons_of_mem _ List.mem_cons_self)) hini
  have hU' : vx_Zq Bundle.tN "UNASSIGNED_STACK" Bundle.steD A s' s'.heap := by rw [hhp]; exact vx_Zq.moved hW0.alike (hU.kept hS.2.1)
  have hN' : vx_Zq Bundle.tN "SUPPRESSED_SENTINEL" Bundle.listD A s' s'.heap := by rw [hhp]; exact vx_Zq.moved hW0.alike (hN.kept hS.2.1)
  have h : ∀ w ∈ Bundle.ownAtoms own ic cls names, w.before args s' = true := vx_own hat' (vx_isRefq hU'.1) (vx_isRefq hN'.1) hU'.2.word hN'.2.word
  have hown' : s'.vm.findClass own = some m.cls := by rw [hvm]; exact hown
  have hins : (Cond.instantiable cls 6).before args s' = true := h _ (by simp [Bundle.ownAtoms])
  obtain ⟨vm₁, cX, kX, hfX, hkX, -, -, X₁, st1⟩ := Y.newCold hexec (own := own) (C := cls) (index := ik) (n := 6) hown' hk' hins hini'
    (g := F0 m pc ls rest) rfl (by rw [hb]; exact d0) (Nat.le_refl _) (Nat.le_refl _)
  generalize hT1 : (T.setVm vm₁).pushCell { cls := cX, slots := kX.instanceTypes.map defaultValue, vm := .none } = T1 at X₁ st1
  have hcat : (Value.ref T.heap.size).category = 1 := rfl
  have hcellA : T1.heap[T.heap.size]? = some (freshCell cX kX) := by rw [← hT1]; exact State.heap_pushCell_size _ _
  have d3' : decode c.code (pc + 3) = .ok (.dup, 1) := by rw [hb]; exact d3
  have d4' : decode c.code (pc + 4) = .ok (.ldc is, 2) := by rw [hb]; exact d4
  have hstr' : vk_R own is text sa s' := vk_R.warm hW0 hstr
  obtain ⟨U, hsteps, hrun, hend, hW, hsame, ce, hce, hO⟩ := X₁.ctorThrowS hexec htr (own := own) (cls := cls) (names := names) (ic := ic) hown' hcls hnames h (fun x hx => nomatch hx) hfX hkX hcellA (by rw [hhp, hT]; exact Nat.le_refl _) (msg := .ref sa) rfl
    (g := { method := m, pc := pc + 6, locals := ls, stack := .ref sa :: .ref T.heap.size :: .ref T.heap.size :: rest, locked := none }) rfl hsize rfl rfl (rest := rest) rfl
    (by rw [hb]; exact d6) (by rw [hb]; exact d9) hout hRframes (by simp only [List.map_cons, List.sum_cons, hcat]; omega) hlocks
  obtain ⟨f1, f2⟩ := vx_frame hsame
  rw [hhp] at f1 f2
  have hWs : s.WarmedH U.vm := State.WarmedH.trans hW0 hW
  have hcl : s.vm.findClass cls = some ce.cls := by
    have h9 := hO.cls
    rw [hvm] at h9
    exact h9
  have hall : s.sameButNew ({ U with vm := s.vm } : State) locs mc ms := by
    subst hA
    obtain ⟨e1, e2⟩ := hsame
    rw [State.setFrames_setFrames] at e1
    have h2 : (T.setVm s.vm).sameButNew ({ U with vm := s.vm } : State) [] (0 + 1) (0 + 6) := ⟨e1, e2⟩
    have h3 := X.same.trans h2
    rw [List.append_nil] at h3
    exact h3.mono hc hs
  refine ⟨U, ?_, .threw T.heap.size, hrun, hend, Or.inr ⟨T.heap.size, rfl, cls, ce, locs, hx U hWs.alike f1 (fun q hq => f2 q hq (fun z hz => nomatch hz)), hce, hO.vm, hcl, hWs, hall, hf⟩⟩
  refine st1 _ ?_
  show Steps p.tables e below (T1.setTop { method := m, pc := pc + 3, locals := ls, stack := .ref T.heap.size :: rest, locked := none }) _
  jvm_step X₁.here [X₁.here.top, hexec, d3', Value.category]
  exact X₁.ldcString hexec (own := own) (text := text) (index := is) (a := sa) hown' hstr'.1 hstr'.2
    (g := { method := m, pc := pc + 4, locals := ls, stack := .ref T.heap.size :: .ref T.heap.size :: rest, locked := none }) rfl d4' _ hsteps
/-- 'throw new E("text")', the text by a wide index -/
theorem vx_throwSW {cc : ByteArray} {pc : Nat} (hexec : p.tables.exec = Jvm.exec) (hb : c.code = cc) (hl : l.stackTraces = false) {own cls text : String} {names : List String} {ik is ic mc ms sa : Nat} {A : Nat → Prop}
    (hown : s.vm.findClass own = some m.cls) (hcls : Bundle.fit cls = true) (hnames : ∀ n ∈ names, Bundle.fit n = true)
    (hk : (Cond.classLink own ik cls).before args s = true) (hini : (Cond.initialized cls).before args s = true) (hstr : vk_R own is text sa s) (hat : ∀ w ∈ vx_atS own ic cls names, w.before args s = true)
    (hgood : ∀ w ∈ Cond.classLink own ik cls :: Cond.initialized cls :: vx_atS own ic cls names, vx_ot w = true)
    (hU : vx_Zq Bundle.tN "UNASSIGNED_STACK" Bundle.steD A s s.heap) (hN : vx_Zq Bundle.tN "SUPPRESSED_SENTINEL" Bundle.listD A s s.heap) (hS : va_S A s.heap H locs) (hsize : ls.size = c.maxLocals)
    (d0 : decode cc pc = .ok (.new ik, 3)) (d3 : decode cc (pc + 3) = .ok (.dup, 1)) (d4 : decode cc (pc + 4) = .ok (.ldc_w is, 3)) (d7 : decode cc (pc + 7) = .ok (.invokespecial ic, 3)) (d10 : decode cc (pc + 10) = .ok (.athrow, 1))
    (hout : ∀ x ∈ c.exceptionTable.toList, covers x (pc + 10) = false)
    (hRframes : names.length + 3 < R.frames) (hRlocals : (rest.map fun v => v.category).sum + (13 * (names.length + 1) + 43) ≤ R.locals) (hRcells : cells + 1 ≤ R.cells) (hRslots : slots + 6 ≤ R.slots) (hlocks : meth.locks = false)
    (hx : ∀ t : State, s.vm.Alike t.vm → H.size ≤ t.heap.size → (∀ q : Nat, q < H.size → t.heap[q]? = H[q]?) → XC cls s t)
    (hf : ∀ z ∈ locs, free z.base) (hc : cells + 1 ≤ mc) (hs : slots + 6 ≤ ms) :
    W p l e R s m args below meth c H locs cells slots (vx_MQ below Qc XC args s mc ms free) (F0 m pc ls rest) := by
  intro T hT X
  have htr : e.platform.stackTraces = false := (show e.platform.stackTraces = l.stackTraces by rw [X.admits.platform]).trans hl
  have Y := vx_rebase X (R' := { frames := R.frames, locals := R.locals, cells := 1, slots := 6 }) (Nat.le_refl _) (Nat.le_refl _) hRcells hRslots
  obtain ⟨s', hA⟩ : ∃ z, z = (T.setVm s.vm).setFrames (.invoking m args :: below) := ⟨_, rfl⟩
  rw [← hA] at Y
  have hvm : s'.vm = s.vm := by rw [hA]; rfl
  have hhp : s'.heap = H := by rw [hA]; exact hT
  have hW0 : s.WarmedH s'.vm := by rw [hvm]; exact State.WarmedH.refl s
  have hat' : ∀ w ∈ vx_atS own ic cls names, w.before args s' = true := fun w hw => vx_ot_at hW0 hvm.symm (hgood w (List.mem_cons_of_mem _ (List.mem_cons_of_mem _ hw))) (hat w hw)
  have hk' : (Cond.classLink own ik cls).before args s' = true := vx_ot_at hW0 hvm.symm (hgood _ List.mem_cons_self) hk
  have hini' : (Cond.initialized cls).before args s' = true := vx_ot_at hW0 hvm.symm (hgood _ (List.mem_cons_of_mem _ List.mem_cons_self)) hini
  have hU' : vx_Zq Bundle.tN "UNASSIGNED_STACK" Bundle.steD A s' s'.heap := by rw [hhp]; exact vx_Zq.moved hW0.alike (hU.kept hS.2.1)
  have hN' : vx_Zq Bundle.tN "SUPPRESSED_SENTINEL" Bundle.listD A s' s'.heap := by rw [hhp]; exact vx_Zq.moved hW0.alike (hN.kept hS.2.1)
  have h : ∀ w ∈ Bundle.ownAtoms own ic cls names, w.before args s' = true := vx_own hat' (vx_isRefq hU'.1) (vx_isRefq hN'.1) hU'.2.word hN'.2.word
  have hown' : s'.vm.findClass own = some m.cls := by rw [hvm]; exact hown
  have hins : (Cond.instantiable cls 6).before args s' = true := h _ (by simp [Bundle.ownAtoms])
  obtain ⟨vm₁, cX, kX, hfX, hkX, -, -, X₁, st1⟩ := Y.newCold hexec (own := own) (C := cls) (index := ik) (n := 6) hown' hk' hins hini'
    (g := F0 m pc ls rest) rfl (by rw [hb]; exact d0) (Nat.le_refl _) (Nat.le_refl _)
  generalize hT1 : (T.setVm vm₁).pushCell { cls := cX, slots := kX.instanceTypes.map defaultValue, vm := .none } = T1 at X₁ st1
  have hcat : (Value.ref T.heap.size).category = 1 := rfl
  have hcellA : T1.heap[T.heap.size]? = some (freshCell cX kX) := by rw [← hT1]; exact State.heap_pushCell_size _ _
  have d3' : decode c.code (pc + 3) = .ok (.dup, 1) := by rw [hb]; exact d3
  have d4' : decode c.code (pc + 4) = .ok (.ldc_w is, 3) := by rw [hb]; exact d4
  have hstr' : vk_R own is text sa s' := vk_R.warm hW0 hstr
  obtain ⟨U, hsteps, hrun, hend, hW, hsame, ce, hce, hO⟩ := X₁.ctorThrowS hexec htr (own := own) (cls := cls) (names := names) (ic := ic) hown' hcls hnames h (fun x hx => nomatch hx) hfX hkX hcellA (by rw [hhp, hT]; exact Nat.le_refl _) (msg := .ref sa) rfl
    (g := { method := m, pc := pc + 7, locals := ls, stack := .ref sa :: .ref T.heap.size :: .ref T.heap.size :: rest, locked := none }) rfl hsize rfl rfl (rest := rest) rfl
    (by rw [hb]; exact d7) (by rw [hb]; exact d10) hout hRframes (by simp only [List.map_cons, List.sum_cons, hcat]; omega) hlocks
  obtain ⟨f1, f2⟩ := vx_frame hsame
  rw [hhp] at f1 f2
  have hWs : s.WarmedH U.vm := State.WarmedH.trans hW0 hW
  have hcl : s.vm.findClass cls = some ce.cls := by
    have h9 := hO.cls
    rw [hvm] at h9
    exact h9
  have hall : s.sameButNew ({ U with vm := s.vm } : State) locs mc ms := by
    subst hA
    obtain ⟨e1, e2⟩ := hsame
    rw [State.setFrames_setFrames] at e1
    have h2 : (T.setVm s.vm).sameButNew ({ U with vm := s.vm } : State) [] (0 + 1) (0 + 6) := ⟨e1, e2⟩
    have h3 := X.same.trans h2
    rw [List.append_nil] at h3
    exact h3.mono hc hs
  refine ⟨U, ?_, .threw T.heap.size, hrun, hend, Or.inr ⟨T.heap.size, rfl, cls, ce, locs, hx U hWs.alike f1 (fun q hq => f2 q hq (fun z hz => nomatch hz)), hce, hO.vm, hcl, hWs, hall, hf⟩⟩
  refine st1 _ ?_
  show Steps p.tables e below (T1.setTop { method := m, pc := pc + 3, locals := ls, stack := .ref T.heap.size :: rest, locked := none }) _
  jvm_step X₁.here [X₁.here.top, hexec, d3', Value.category]
  exact X₁.ldcStringW hexec (own := own) (text := text) (index := is) (a := sa) hown' hstr'.1 hstr'.2
    (g := { method := m, pc := pc + 4, locals := ls, stack := .ref T.heap.size :: .ref T.heap.size :: rest, locked := none }) rfl d4' _ hsteps
end Ends
section Bodies
variable {l : Launch}
theorem vx_ofW {y : MethodName} {ws ws' : List Cond} {rm : Room} {Pc : Array Value → State → Prop} {Qc : Array Value → State → Outcome → State → Prop} {XC : String → State → State → Prop} {mc ms : Nat} {free : Addr → Prop} {cc : ByteArray} {maxL : Nat} {ret : Option FieldType}
    (hy : plainName y.cls = true) (hw : ws = Cond.code y cc maxL ret :: ws')
    (body : ∀ p e s m args below meth c s₁, BodyLoose p l y (headSpec ws rm) cc maxL ret e s m args below meth c s₁ → c.maxLocals = maxL → (∀ x ∈ c.exceptionTable.toList, False) → Pc args s →
      W p l e (headSpec ws rm).room s m args below meth c s.heap [] 0 0 (vx_MQ below Qc XC args s mc ms free) (entryFrame m args maxL)) : vx_Met l y ws rm Pc Qc XC mc ms free := by
  refine MetFree.of_bodyS (code := cc) (maxLocals := maxL) (ret := ret) hy ?_ ?_
  · intro args s m h hn
    obtain ⟨meth, c, h1, h2, h3, h4, h5, h6, -, -⟩ := Cond.code_spec hn (atoms_spec (ws := ws) h _ (by rw [hw]; exact List.mem_cons_self))
    exact ⟨meth, c, h1, h2, h3, h4, h5, h6⟩
  · intro p e s m args below meth c s₁ B hml hP _
    have hh0 : s₁.heap = s.heap := by rw [B.state]; rfl
    have ht : ∀ x ∈ c.exceptionTable.toList, False := by
      obtain ⟨meth9, c9, h1, h2, -, -, -, -, h7, -⟩ := Cond.code_spec B.named (atoms_spec (ws := ws) B.pre _ (by rw [hw]; exact List.mem_cons_self))
      cases Option.some.inj (h1.symm.trans B.method)
      cases Option.some.inj (h2.symm.trans (Stand.of_body B).code)
      intro x hx
      rw [Array.isEmpty_iff.mp h7] at hx
      cases hx
    obtain ⟨t, a1, o, b1, b2, b3⟩ := body p e s m args below meth c s₁ B hml ht hP s₁ hh0 (Stand.of_body B)
    exact ⟨t, o, a1, b1, b2, b3⟩
/-- the table of a body with handlers -/
theorem vx_table {p : Program} {x y : MethodName} {S : Spec} {cc bytes : ByteArray} {maxL maxL' : Nat} {ret ret' : Option FieldType} {e : Env} {s s₁ : State} {m : MethodId} {args : Array Value} {below : List Frame} {meth : Method} {c : Code} {hh : List (Nat × Nat × Nat × Nat)}
    (B : BodyLoose p l y S cc maxL ret e s m args below meth c s₁) (h : (Cond.codeWith y bytes maxL' ret' hh).before args s = true) : c.exceptionTable.toList = tableOf hh := by
  obtain ⟨m9, meth9, c9, hn9, h1, h2, -, -, h6, -⟩ := Cond.codeWith_spec h
  cases Option.some.inj (hn9.symm.trans B.named)
  cases Option.some.inj (h1.symm.trans B.method)
  cases Option.some.inj (h2.symm.trans (Stand.of_body B).code)
  rw [← h6, table_eq]
end Bodies
end VXA
/-! ===== END ===== -/
/-! ===== BEGIN a static call of a method with an exception table ===== -/
section VXS
variable {p : Program} {l : Launch} {e : Env} {R : Room} {s : State} {m : MethodId} {args : Array Value} {below : List Frame} {meth : Method} {c : Code} {T : State} {H : Heap} {locs : List Loc} {cells slots : Nat}
abbrev vx_CSW (R : Room) (s : State) (args : Array Value) (own : String) (index : Nat) (y : MethodName) (bytes : ByteArray) (maxL : Nat) (ret : Option FieldType) (hh : List (Nat × Nat × Nat × Nat)) (ws : List Cond) (rm : Room) (mc ms n : Nat) : Prop :=
  (rm.cells = mc ∧ rm.slots = ms ∧ rm.frames + 1 ≤ R.frames ∧ 8 + (maxL + 11) + rm.locals ≤ R.locals ∧ (∀ w ∈ ws, ∀ (a' : Array Value) (U : State), s.WarmedH U.vm → w.before a' U = true) ∧ Cond.codeWith y bytes maxL ret hh ∈ ws) ∧
  (Cond.codeWith y bytes maxL ret hh).before args s = true ∧ (Cond.initialized y.cls).before args s = true ∧ (y.cls ≠ "java/lang/invoke/MethodHandle" ∧ y.cls ≠ "java/lang/invoke/VarHandle") ∧
  (∀ sig, parseMethodDescriptor y.desc = some sig → n = sig.parameters.length) ∧ (Cond.methodLink own index y).before args s = true ∧ (Cond.static y).before args s = true
theorem vx_cwSW {own : String} {index maxL mc ms : Nat} {y : MethodName} {bytes : ByteArray} {ret : Option FieldType} {hh : List (Nat × Nat × Nat × Nat)} {Ts ws ws' : List Cond} {rm : Room} (n : Nat) (ht : ∀ w ∈ Ts, w.before args s = true) (hT : GoodIn Ts (va_wsS own index y ws)) (hw : ws = Cond.codeWith y bytes maxL ret hh :: ws') (hrc : rm.cells = mc) (hrs : rm.slots = ms)
    (hd : y.cls ≠ "java/lang/invoke/MethodHandle" ∧ y.cls ≠ "java/lang/invoke/VarHandle" ∧ (parseMethodDescriptor y.desc).map (fun d => d.parameters.length) = some n) (hR : rm.frames + 1 ≤ R.frames ∧ 8 + (maxL + 11) + rm.locals ≤ R.locals) :
    vx_CSW R s args own index y bytes maxL ret hh ws rm mc ms n := by
  have ok : ∀ w ∈ va_wsS own index y ws, w.before args s = true := fun w h => ht w (hT w h).1
  have hG : GoodIn Ts ws := fun w h => hT w (by unfold va_wsS; exact List.mem_append_right _ h)
  have hc : Cond.codeWith y bytes maxL ret hh ∈ ws := by rw [hw]; exact List.mem_cons_self
  refine ⟨⟨hrc, hrs, hR.1, hR.2, pay_in ht hG, hc⟩, ht _ (hG _ hc).1, ok _ (by simp [va_wsS]), ⟨hd.1, hd.2.1⟩, fun sig h => ?_, ok _ (by simp [va_wsS]), ok _ (by simp [va_wsS])⟩
  have h2 := hd.2.2
  rw [h] at h2
  exact (Option.some.inj h2).symm
theorem vx_callSW (X : Stand p l e R s m args below meth c T locs cells slots) (hexec : p.tables.exec = Jvm.exec) {own : String} {index : Nat} {y : MethodName} {bytes : ByteArray} {maxL : Nat} {ret : Option FieldType} {hh : List (Nat × Nat × Nat × Nat)}
    (hown : s.vm.findClass own = some m.cls) (hlink : (Cond.methodLink own index y).before args s = true) (hstat : (Cond.static y).before args s = true) (hinit : (Cond.initialized y.cls).before args s = true)
    (hcode : (Cond.codeWith y bytes maxL ret hh).before args s = true) (hy : y.cls ≠ "java/lang/invoke/MethodHandle" ∧ y.cls ≠ "java/lang/invoke/VarHandle")
    {W9 : Nat} {Pre : Pt → Array Value → Prop} {Post : Pt → Array Value → Option Value → Pt → Prop} (hK : Back l R p e below s args y 3 W9 Pre Post)
    {g : JFrame} (hg : g.method = m) (hsize : g.locals.size = c.maxLocals) {argsL rest : List Value} (hlen : ∀ sig, parseMethodDescriptor y.desc = some sig → argsL.length = sig.parameters.length)
    (hstack : g.stack = argsL.reverse ++ rest) (hW : 2 * g.monitorRoom + (rest.map fun v => v.category).sum ≤ W9) (hdg : decode c.code g.pc = .ok (.invokestatic index, 3))
    (hpre : ∀ vm₁, s.WarmedH vm₁ → Pre ⟨T.setVm vm₁, locs, cells, slots⟩ argsL.toArray) :
    ∃ (v : Option Value) (vm₁ : Vm) (B : Pt), s.WarmedH vm₁ ∧ Stand p l e R s m args below meth c B.U B.locs B.cells B.slots ∧ Post ⟨T.setVm vm₁, locs, cells, slots⟩ argsL.toArray v B ∧
      ∀ target, Steps p.tables e below (B.U.setTop { g with pc := g.pc + 3, stack := v.toList ++ rest }) target → Steps p.tables e below (T.setTop g) target := by
  obtain ⟨mk, methM, cM, hnamed, hmethM, -, -, -, -, -, -, hsigM⟩ := Cond.codeWith_spec hcode
  have hstatic : methM.isStatic = true := Cond.static_spec hnamed hmethM hstat
  obtain ⟨kP, hkP, -⟩ := className_of_methodNamed hnamed
  have hinitP : kP.init = .initialized := Cond.initialized_spec (findClass_of_methodNamed hnamed) hkP hinit
  obtain ⟨vm₁, X₁, hstep₁⟩ := X.invokestatic hexec hown hlink hnamed hmethM hstatic hkP hinitP hy (g := g) hg (argsL := argsL) (rest := rest) (hlen _ hsigM) hstack hdg
  obtain ⟨v, B, X', hpost, hsteps⟩ := hK m meth c ⟨T.setVm vm₁, locs, cells, slots⟩ { g with stack := rest } (.invokestatic index) mk argsL.toArray X₁ hg hsize hdg hW (X₁.named hnamed) (hpre vm₁ X₁.warmed)
  exact ⟨v, vm₁, B, X₁.warmed, X', hpost, fun target h => hstep₁ _ fun acts => by rw [doInvoke_state]; exact hsteps.trans h⟩
theorem vx_runSW {y : MethodName} {bytes cc : ByteArray} {maxL nL mc ms n index : Nat} {ret : Option FieldType} {hh : List (Nat × Nat × Nat × Nat)} {ws : List Cond} {rm : Room} {Pc : Array Value → State → Prop} {Qc : Array Value → State → Outcome → State → Prop} {free : Addr → Prop} {Ts : List Cond} {own : String} {As rest : List Value} {g : JFrame}
    (S : CallFix p m c cc nL s args Ts own) (hM : Met l y ws rm Pc Qc mc ms free) (cw : vx_CSW R s args own index y bytes maxL ret hh ws rm mc ms n) (hp : PreS s H Pc As)
    (hg : g.method = m) (hn : As.length = n) (hsize : g.locals.size = nL) (hstack : g.stack = As.reverse ++ rest) (hW : 2 * g.monitorRoom + (rest.map fun v => v.category).sum ≤ 8) (hdg : decode cc g.pc = .ok (.invokestatic index, 3)) (hf : cells + mc ≤ R.cells ∧ slots + ms ≤ R.slots) :
    va_Run p l e R s m args below meth c H locs cells slots mc ms g rest (Qc As.toArray) (free) := by
  obtain ⟨⟨hrc, hrs, hfr, hlo, hws, hcw⟩, hcode, hini, hy, hlen, hl, hstt⟩ := cw
  have hK : Back l R p e below s args y 3 8 (PreOf R mc ms Pc) (PostOf Qc mc ms free) := va_backW (hh := hh) (bytes := bytes) (maxL := maxL) (ret := ret) hM hp.1 hrc hrs hfr hlo hws hcw (fun a' U hW => word_at hW (Or.inl (by first | rfl | simp [Cond.onTables, Cond.keeps, Cond.steady])) hini)
  obtain ⟨hx, hb, hml, ho, -⟩ := S
  intro T hT X
  obtain ⟨v, vm₁, ⟨U', l2, c2, s2⟩, hW₁, X', ⟨g', mk, t, L, e1, e2, hq, h1, hL, h2, h3⟩, st⟩ := vx_callSW X hx (hh := hh) (bytes := bytes) (maxL := maxL) (ret := ret) ho hl hstt hini hcode hy hK hg (hsize.trans hml.symm) (argsL := As) (rest := rest) (fun sig h => hn.trans (hlen sig h)) hstack hW (by rw [hb]; exact hdg)
    (fun vm₁ hW₁ => ⟨hf.1, hf.2, hp.2 (T.setVm vm₁) hT hW₁⟩)
  dsimp only [Pt.U, Pt.locs, Pt.cells, Pt.slots] at X' e1 e2 h1 h2 h3 st
  subst h1; subst h2; subst h3
  exact ⟨v, (T.setVm vm₁).calling g' mk As.toArray, t, U', L, hT, X', hL, e1, e2, hq, st⟩
/-- not caught here, past rows that name other classes: it goes on to the caller -/
theorem vx_outP {p : Program} {l : Launch} {e : Env} {R : Room} {s : State} {m : MethodId} {args : Array Value} {below : List Frame} {meth : Method} {c : Code} {H : Heap} {locs : List Loc} {cells slots : Nat} {free : Addr → Prop} {ls : Array Slot} {rest : List Value} {Qc : Array Value → State → Outcome → State → Prop} {XC : String → State → State → Prop}
    {pc : Nat} {own E : String} {ce : Cell} {q : Addr} {mc ms : Nat} (hown : s.vm.findClass own = some m.cls) (hlocks : meth.locks = false)
    (hpass : ∀ z ∈ c.exceptionTable.toList, covers z pc = false ∨ (z.catchType ≠ 0 ∧ ∃ nm : String, (Cond.classLink own z.catchType nm).before args s = true ∧ va_Nc E nm s)) (hcell : H[q]? = some ce) (hv : ce.vm = .none) (hcl : s.vm.findClass E = some ce.cls)
    (hx : ∀ t : State, t.heap = H → s.vm.Alike t.vm → XC E s t) (hf : ∀ z ∈ locs, free z.base) (hc : cells ≤ mc) (hs : slots ≤ ms) :
    vx_W p l e R s m args below meth c H locs cells slots (vx_MQ below Qc XC args s mc ms free) (F0 m pc ls rest) q := by
  intro T hT X
  have hpl : e.platform.magicAccessors = ({} : Platform).magicAccessors := by rw [X.admits.platform]
  obtain ⟨vm', hW', X', st⟩ := X.outThrough hlocks q (g := F0 m pc ls rest) rfl rfl rfl (cell := ce) (by rw [hT]; exact hcell) (by rw [hv]; rfl)
    (by obtain ⟨k9, h9, -⟩ := Vm.findClass_spec hcl; exact ⟨k9, h9⟩) (fun z hz => by
      rcases hpass z hz with h | ⟨hz0, nm, hl1, hn1⟩
      · exact Or.inl h
      · obtain ⟨c6, hc6, hcl6⟩ := Cond.classLink_spec hown hl1 e.platform hpl
        obtain ⟨a8, b8, h1, h2, h3⟩ := hn1
        cases Option.some.inj (h1.symm.trans hcl)
        cases Option.some.inj (h2.symm.trans hc6)
        exact Or.inr ⟨hz0, _, hcl6, h3⟩)
  obtain ⟨g₀, hfr⟩ := X'.frames_eq
  have hcell9 : ((T.setVm vm').setFrames (.throwing q :: below)).heap[q]? = some ce := by
    show T.heap[q]? = some ce
    rw [hT]; exact hcell
  have hend : Ended ((T.setVm vm').setFrames (.throwing q :: below)) below (.threw q) := State.frames_setFrames _ (State.cur_lt_of_frames hfr)
  refine ⟨(T.setVm vm').setFrames (.throwing q :: below), ?_, .threw q, X'.here.running, hend, Or.inr ⟨q, rfl, E, ce, locs, hx _ hT (X'.ends _).1.alike, hcell9, hv, hcl, (X'.ends _).1, (X'.ends _).2.mono hc hs, hf⟩⟩
  rw [X.pushThrowing_eq]
  exact st
/-- a thing of a world lies in the heap -/
theorem vx_lt {D : va_G} {cl : List vw_C} {ws : va_W} {H1 : Heap} (h : va_P D cl ws H1) {k : Nat} {q : Nat × va_E} (hk : ws[k]? = some q) : q.1 < H1.size := (h k q hk).lt
end VXS
/-! ===== END ===== -/
/-! ===== BEGIN methods with a table of their own: called by a name, returning or throwing ===== -/
section VXH
/-! vx_backW, vx_callVX, vx_callSX, vx_callVW, vx_runVW, vx_runVX, vx_runSX, vx_ofWH follow the same proofs as their sisters above (Free/Laws.lean, Shelf42/LK1.lean); vx_outP calls Shelf42/NT130.lean (outThrough). -/
section
variable {l : Launch} {R : Room} {p : Program} {e : Env} {below : List Frame} {s : State} {sargs : Array Value} {y : MethodName} {len W9 : Nat}
theorem vx_backW {ws : List Cond} {rm : Room} {Pc : Array Value → State → Prop} {Qc : Array Value → State → Outcome → State → Prop} {XC : String → State → State → Prop} {mc ms : Nat} {free : Addr → Prop} {bytes : ByteArray} {maxL : Nat} {ret : Option FieldType} {hh : List (Nat × Nat × Nat × Nat)}
    (hM : vx_Met l y ws rm Pc Qc XC mc ms free) (hblind : FrameBlind Pc) (hrc : rm.cells = mc) (hrs : rm.slots = ms)
    (hframes : rm.frames + 1 ≤ R.frames) (hlocals : W9 + (maxL + 11) + rm.locals ≤ R.locals)
    (hws : ∀ w ∈ ws, ∀ a' U, s.WarmedH U.vm → w.before a' U = true) (hcode : Cond.codeWith y bytes maxL ret hh ∈ ws) (hinit : ∀ a' U, s.WarmedH U.vm → (Cond.initialized y.cls).before a' U = true) :
    vx_Back l R p e below s sargs y len W9 (PreOf R mc ms Pc) (PostOf Qc mc ms free) (vx_Post XC mc ms free) := by
  intro m meth c A g ig mk a X hg hsize hdg hW hn hp
  have h1 : (headSpec ws rm).pre.before a A.U = true := atoms_intro fun w hw => hws w hw _ _ X.warmed
  have h2 : (Cond.codeWith y bytes maxL ret hh).before a A.U = true := hws _ hcode _ _ X.warmed
  have h3 : (Cond.initialized y.cls).before a A.U = true := hinit _ _ X.warmed
  have h4 : A.cells + (headSpec ws rm).room.cells ≤ R.cells := by rw [show (headSpec ws rm).room.cells = mc from hrc]; exact hp.1
  have h5 : A.slots + (headSpec ws rm).room.slots ≤ R.slots := by rw [show (headSpec ws rm).room.slots = ms from hrs]; exact hp.2.1
  have hPc : Pc a (A.U.calling g mk a) := hblind _ _ _ _ hp.2.2
  obtain ⟨U, Ls, c0, s0⟩ := A
  dsimp only [Pt.U, Pt.locs, Pt.cells, Pt.slots] at h1 h2 h3 h4 h5 X hn hPc ⊢
  obtain ⟨m9, methY, cY, hn9, hmY, hcY, -, hlY, -⟩ := Cond.codeWith_spec h2
  cases Option.some.inj (hn9.symm.trans hn)
  obtain ⟨kY, hkY, -⟩ := className_of_methodNamed hn
  have hinitY : kY.init = .initialized := Cond.initialized_spec (findClass_of_methodNamed hn) hkY h3
  have h : At U g.method c below := by rw [hg]; exact X.here
  have hlocals9 : W9 + (maxL + 11) + (headSpec ws rm).room.locals ≤ R.locals := hlocals
  have happ : (headSpec ws rm).appliesLoose y e.platform (U.calling g mk a) = true :=
    Spec.appliesLoose_calling (g := g) h hdg hn hkY hinitY
      (X.room_calling (g := g) (R' := (headSpec ws rm).room) hsize hmY hcY hframes (by rw [hlY]; omega) h4 h5) h1
  obtain ⟨mid, hmid⟩ := h.above
  have hfr : (U.setTop g).frames = (.java g :: mid) ++ below := by rw [State.frames_setTop' g h.top, hmid]; rfl
  obtain ⟨o, s₂, hsteps, -, hend, hq⟩ := Steps.callFree hM p X.admits X.cas X.clock (acts := []) hfr happ hPc trivial
  have hq' : vx_Q Qc XC mc ms free a (U.calling g mk a) o s₂ := hq
  rw [State.frames_setTop' g h.top] at hend
  obtain ⟨g₀, hg0⟩ := Option.isSome_iff_exists.mp h.top
  obtain ⟨r, hr⟩ := State.topJava?_eq_some.mp hg0
  have hr' : (({ U with heap := s₂.heap, slotsUsed := s₂.slotsUsed } : State).setVm s₂.vm).frames = .java g₀ :: r := hr
  rcases hq' with ⟨hqc, L, hfe, hL⟩ | ⟨q, rfl, E, ce, L, hx, hce, hcv, hcl, hW₂, hsm, hL⟩
  · obtain ⟨⟨v, rfl⟩, hW₂, e2, q2, q3, q4, q5, q6⟩ := id hfe
    have e3 : s₂ = ({ (U.calling g mk a).setFrames s₂.frames with heap := s₂.heap, slotsUsed := s₂.slotsUsed } : State).setVm s₂.vm := by
      have : s₂ = ({ s₂ with vm := (U.calling g mk a).vm } : State).setVm s₂.vm := rfl
      rw [e2] at this
      exact this
    obtain ⟨c₂, i₂, len₂, hc₂, hd₂, hf₂⟩ := hend
    have hW' : U.WarmedH s₂.vm := hW₂
    have hcc : c₂ = c := by
      have h1 : s₂.code? g.method = U.code? g.method := by
        rw [State.code?_eq, State.code?_eq, hW'.alike.method?]
      exact Option.some.inj (hc₂.symm.trans (h1.trans h.code))
    subst hcc
    have hlen : len₂ = len := by rw [hdg] at hd₂; cases hd₂; rfl
    subst hlen
    have hs₂ : s₂ = (({ U with heap := s₂.heap, slotsUsed := s₂.slotsUsed } : State).setVm s₂.vm).setTop { g with pc := g.pc + len₂, stack := v.toList ++ g.stack } := by
      refine e3.trans ?_
      rw [hf₂, State.calling_eq h.top, State.setFrames_setFrames, State.setTop_of_frames _ hr', hr]
      rfl
    have hsame : U.sameButNew ({ U with heap := s₂.heap, slotsUsed := s₂.slotsUsed } : State) L mc ms := by
      refine ⟨?_, q2, q3, q4, q5, q6⟩
      obtain ⟨t, ht, -⟩ := State.frames_cons hr
      show ({ U with heap := s₂.heap, slotsUsed := s₂.slotsUsed } : State) = { U.setFrames U.frames with heap := s₂.heap, slotsUsed := s₂.slotsUsed }
      rw [State.setFrames_self ht]
    subst hg
    refine Or.inl ⟨v, ⟨(({ U with heap := s₂.heap, slotsUsed := s₂.slotsUsed } : State).setVm s₂.vm), Ls ++ L, c0 + mc, s0 + ms⟩,
      ⟨X.admits, X.cas, X.clock, X.frames, X.room, X.hears, X.method, X.code, (X.here.setHeapUsed s₂.heap s₂.slotsUsed).setVm hW'.alike, X.tail, State.WarmedH.trans X.warmed hW', X.limits, X.bytes, X.same.trans (hsame.setVm s.vm)⟩,
      ⟨g, mk, s₂, L, rfl, rfl, hqc, rfl, hL, rfl, rfl⟩, ?_⟩
    show Steps p.tables e below _ ((({ U with heap := s₂.heap, slotsUsed := s₂.slotsUsed } : State).setVm s₂.vm).setTop { g with pc := g.pc + len₂, stack := v.toList ++ g.stack })
    rw [← hs₂]
    exact hsteps
  · obtain ⟨e2, q2, q3, q4, q5, q6⟩ := id hsm
    have e3 : s₂ = ({ (U.calling g mk a).setFrames s₂.frames with heap := s₂.heap, slotsUsed := s₂.slotsUsed } : State).setVm s₂.vm := by
      have : s₂ = ({ s₂ with vm := (U.calling g mk a).vm } : State).setVm s₂.vm := rfl
      rw [e2] at this
      exact this
    have hf₂ : s₂.frames = .throwing q :: .java g :: U.frames.tail := hend
    have hW' : U.WarmedH s₂.vm := hW₂
    have hs₂ : s₂ = ((({ U with heap := s₂.heap, slotsUsed := s₂.slotsUsed } : State).setVm s₂.vm).setTop g).pushFrame (.throwing q) := by
      refine e3.trans ?_
      rw [hf₂, State.calling_eq h.top, State.setFrames_setFrames, State.pushFrame, State.frames_setTop _ hr', State.setTop_of_frames _ hr', State.setFrames_setFrames, hr]
      rfl
    have hsame : U.sameButNew ({ U with heap := s₂.heap, slotsUsed := s₂.slotsUsed } : State) L mc ms := by
      refine ⟨?_, q2, q3, q4, q5, q6⟩
      obtain ⟨t, ht, -⟩ := State.frames_cons hr
      show ({ U with heap := s₂.heap, slotsUsed := s₂.slotsUsed } : State) = { U.setFrames U.frames with heap := s₂.heap, slotsUsed := s₂.slotsUsed }
      rw [State.setFrames_self ht]
    subst hg
    refine Or.inr ⟨q, ⟨(({ U with heap := s₂.heap, slotsUsed := s₂.slotsUsed } : State).setVm s₂.vm), Ls ++ L, c0 + mc, s0 + ms⟩,
      ⟨X.admits, X.cas, X.clock, X.frames, X.room, X.hears, X.method, X.code, (X.here.setHeapUsed s₂.heap s₂.slotsUsed).setVm hW'.alike, X.tail, State.WarmedH.trans X.warmed hW', X.limits, X.bytes, X.same.trans (hsame.setVm s.vm)⟩,
      ⟨g, mk, s₂, L, E, ce, rfl, rfl, hx, hce, hcv, hcl, rfl, hL, rfl, rfl⟩, ?_⟩
    show Steps p.tables e below _ (((({ U with heap := s₂.heap, slotsUsed := s₂.slotsUsed } : State).setVm s₂.vm).setTop g).pushFrame (.throwing q))
    rw [← hs₂]
    exact hsteps
end
variable {p : Program} {l : Launch} {e : Env} {R : Room} {s : State} {m : MethodId} {args : Array Value} {below : List Frame} {meth : Method} {c : Code} {T : State} {H : Heap} {locs : List Loc} {cells slots : Nat}
theorem vx_callVX (X : Stand p l e R s m args below meth c T locs cells slots) (hexec : p.tables.exec = Jvm.exec) {own C : String} {index : Nat} {y : MethodName} {bytes : ByteArray} {maxL : Nat} {ret : Option FieldType} {hh : List (Nat × Nat × Nat × Nat)}
    (hown : s.vm.findClass own = some m.cls) (hlink : (Cond.methodLink own index y).before args s = true) (hinst : (Cond.instanceMethod y).before args s = true) (hsel : (Cond.selects C y y).before args s = true)
    (hcode : (Cond.codeWith y bytes maxL ret hh).before args s = true) (hy : y.cls ≠ "java/lang/invoke/MethodHandle" ∧ y.cls ≠ "java/lang/invoke/VarHandle")
    {W9 : Nat} {Pre : Pt → Array Value → Prop} {Post : Pt → Array Value → Option Value → Pt → Prop} {PostX : Pt → Array Value → Addr → Pt → Prop} (hK : vx_Back l R p e below s args y 3 W9 Pre Post PostX)
    {b : Addr} {cellB : Cell} (hcell : T.heap[b]? = some cellB) (hobj : cellB.vm.isStatics = false) (hcls : s.vm.findClass C = some cellB.cls)
    {g : JFrame} (hg : g.method = m) (hsize : g.locals.size = c.maxLocals) {argsL rest : List Value} (hlen : ∀ sig, parseMethodDescriptor y.desc = some sig → argsL.length = sig.parameters.length)
    (hstack : g.stack = argsL.reverse ++ .ref b :: rest) (hW : 2 * g.monitorRoom + (rest.map fun v => v.category).sum ≤ W9) (hdg : decode c.code g.pc = .ok (.invokevirtual index, 3))
    (hpre : ∀ vm₁, s.WarmedH vm₁ → Pre ⟨T.setVm vm₁, locs, cells, slots⟩ (Value.ref b :: argsL).toArray) :
    (∃ (v : Option Value) (vm₁ : Vm) (B : Pt), s.WarmedH vm₁ ∧ Stand p l e R s m args below meth c B.U B.locs B.cells B.slots ∧ Post ⟨T.setVm vm₁, locs, cells, slots⟩ (Value.ref b :: argsL).toArray v B ∧
      ∀ target, Steps p.tables e below (B.U.setTop { g with pc := g.pc + 3, stack := v.toList ++ rest }) target → Steps p.tables e below (T.setTop g) target) ∨
    (∃ (q : Addr) (vm₁ : Vm) (B : Pt), s.WarmedH vm₁ ∧ Stand p l e R s m args below meth c B.U B.locs B.cells B.slots ∧ PostX ⟨T.setVm vm₁, locs, cells, slots⟩ (Value.ref b :: argsL).toArray q B ∧
      Steps p.tables e below (T.setTop g) ((B.U.setTop { g with stack := rest }).pushFrame (.throwing q))) := by
  obtain ⟨mk, methM, hnamed, hmethM, hstM, habM⟩ := Cond.instanceMethod_spec hinst
  obtain ⟨m8, methM', cM, hn8, hmethM', -, -, -, -, -, -, hsigM⟩ := Cond.codeWith_spec hcode
  cases Option.some.inj (hn8.symm.trans hnamed)
  cases hmethM.symm.trans hmethM'
  obtain ⟨c2, r2, m2, q1, q2, q3, q4, kP, hkP, hkPi⟩ := Cond.selects_spec hsel
  cases hcls.symm.trans q1
  cases (State.methodFound?_of_named hnamed hy).symm.trans q2
  cases hnamed.symm.trans q3
  have hselP : selectMethod e.platform s.vm cellB.cls mk = .method mk := by rw [Launch.admits_selectMethod X.admits]; exact q4
  obtain ⟨vm₁, X₁, hstep₁⟩ := X.invokevirtual hexec hown hlink hnamed hmethM hstM hkP hkPi hy (a := b) (cell := cellB) hcell
    (fun z h => by rw [h] at hobj; cases hobj) hselP hmethM habM hkP hkPi (g := g) hg (argsL := argsL) (rest := rest) (hlen _ hsigM) hstack hdg
  rcases hK m meth c ⟨T.setVm vm₁, locs, cells, slots⟩ { g with stack := rest } (.invokevirtual index) mk (Value.ref b :: argsL).toArray X₁ hg hsize hdg hW (X₁.named hnamed) (hpre vm₁ X₁.warmed) with ⟨v, B, X', hpost, hsteps⟩ | ⟨q, B, X', hpost, hsteps⟩
  · exact Or.inl ⟨v, vm₁, B, X₁.warmed, X', hpost, fun target h => hstep₁ _ fun acts => by rw [doInvoke_state]; exact hsteps.trans h⟩
  · exact Or.inr ⟨q, vm₁, B, X₁.warmed, X', hpost, hstep₁ _ fun acts => by rw [doInvoke_state]; exact hsteps⟩
theorem vx_callSX (X : Stand p l e R s m args below meth c T locs cells slots) (hexec : p.tables.exec = Jvm.exec) {own : String} {index : Nat} {y : MethodName} {bytes : ByteArray} {maxL : Nat} {ret : Option FieldType} {hh : List (Nat × Nat × Nat × Nat)}
    (hown : s.vm.findClass own = some m.cls) (hlink : (Cond.methodLink own index y).before args s = true) (hstat : (Cond.static y).before args s = true) (hinit : (Cond.initialized y.cls).before args s = true)
    (hcode : (Cond.codeWith y bytes maxL ret hh).before args s = true) (hy : y.cls ≠ "java/lang/invoke/MethodHandle" ∧ y.cls ≠ "java/lang/invoke/VarHandle")
    {W9 : Nat} {Pre : Pt → Array Value → Prop} {Post : Pt → Array Value → Option Value → Pt → Prop} {PostX : Pt → Array Value → Addr → Pt → Prop} (hK : vx_Back l R p e below s args y 3 W9 Pre Post PostX)
    {g : JFrame} (hg : g.method = m) (hsize : g.locals.size = c.maxLocals) {argsL rest : List Value} (hlen : ∀ sig, parseMethodDescriptor y.desc = some sig → argsL.length = sig.parameters.length)
    (hstack : g.stack = argsL.reverse ++ rest) (hW : 2 * g.monitorRoom + (rest.map fun v => v.category).sum ≤ W9) (hdg : decode c.code g.pc = .ok (.invokestatic index, 3))
    (hpre : ∀ vm₁, s.WarmedH vm₁ → Pre ⟨T.setVm vm₁, locs, cells, slots⟩ argsL.toArray) :
    (∃ (v : Option Value) (vm₁ : Vm) (B : Pt), s.WarmedH vm₁ ∧ Stand p l e R s m args below meth c B.U B.locs B.cells B.slots ∧ Post ⟨T.setVm vm₁, locs, cells, slots⟩ argsL.toArray v B ∧
      ∀ target, Steps p.tables e below (B.U.setTop { g with pc := g.pc + 3, stack := v.toList ++ rest }) target → Steps p.tables e below (T.setTop g) target) ∨
    (∃ (q : Addr) (vm₁ : Vm) (B : Pt), s.WarmedH vm₁ ∧ Stand p l e R s m args below meth c B.U B.locs B.cells B.slots ∧ PostX ⟨T.setVm vm₁, locs, cells, slots⟩ argsL.toArray q B ∧
      Steps p.tables e below (T.setTop g) ((B.U.setTop { g with stack := rest }).pushFrame (.throwing q))) := by
  obtain ⟨mk, methM, cM, hnamed, hmethM, -, -, -, -, -, -, hsigM⟩ := Cond.codeWith_spec hcode
  have hstatic : methM.isStatic = true := Cond.static_spec hnamed hmethM hstat
  obtain ⟨kP, hkP, -⟩ := className_of_methodNamed hnamed
  have hinitP : kP.init = .initialized := Cond.initialized_spec (findClass_of_methodNamed hnamed) hkP hinit
  obtain ⟨vm₁, X₁, hstep₁⟩ := X.invokestatic hexec hown hlink hnamed hmethM hstatic hkP hinitP hy (g := g) hg (argsL := argsL) (rest := rest) (hlen _ hsigM) hstack hdg
  rcases hK m meth c ⟨T.setVm vm₁, locs, cells, slots⟩ { g with stack := rest } (.invokestatic index) mk argsL.toArray X₁ hg hsize hdg hW (X₁.named hnamed) (hpre vm₁ X₁.warmed) with ⟨v, B, X', hpost, hsteps⟩ | ⟨q, B, X', hpost, hsteps⟩
  · exact Or.inl ⟨v, vm₁, B, X₁.warmed, X', hpost, fun target h => hstep₁ _ fun acts => by rw [doInvoke_state]; exact hsteps.trans h⟩
  · exact Or.inr ⟨q, vm₁, B, X₁.warmed, X', hpost, hstep₁ _ fun acts => by rw [doInvoke_state]; exact hsteps⟩
theorem vx_callVW (X : Stand p l e R s m args below meth c T locs cells slots) (hexec : p.tables.exec = Jvm.exec) {own C : String} {index : Nat} {y : MethodName} {bytes : ByteArray} {maxL : Nat} {ret : Option FieldType} {hh : List (Nat × Nat × Nat × Nat)}
    (hown : s.vm.findClass own = some m.cls) (hlink : (Cond.methodLink own index y).before args s = true) (hinst : (Cond.instanceMethod y).before args s = true) (hsel : (Cond.selects C y y).before args s = true)
    (hcode : (Cond.codeWith y bytes maxL ret hh).before args s = true) (hy : y.cls ≠ "java/lang/invoke/MethodHandle" ∧ y.cls ≠ "java/lang/invoke/VarHandle")
    {W9 : Nat} {Pre : Pt → Array Value → Prop} {Post : Pt → Array Value → Option Value → Pt → Prop} (hK : Back l R p e below s args y 3 W9 Pre Post)
    {b : Addr} {cellB : Cell} (hcell : T.heap[b]? = some cellB) (hobj : cellB.vm.isStatics = false) (hcls : s.vm.findClass C = some cellB.cls)
    {g : JFrame} (hg : g.method = m) (hsize : g.locals.size = c.maxLocals) {argsL rest : List Value} (hlen : ∀ sig, parseMethodDescriptor y.desc = some sig → argsL.length = sig.parameters.length)
    (hstack : g.stack = argsL.reverse ++ .ref b :: rest) (hW : 2 * g.monitorRoom + (rest.map fun v => v.category).sum ≤ W9) (hdg : decode c.code g.pc = .ok (.invokevirtual index, 3))
    (hpre : ∀ vm₁, s.WarmedH vm₁ → Pre ⟨T.setVm vm₁, locs, cells, slots⟩ (Value.ref b :: argsL).toArray) :
    ∃ (v : Option Value) (vm₁ : Vm) (B : Pt), s.WarmedH vm₁ ∧ Stand p l e R s m args below meth c B.U B.locs B.cells B.slots ∧ Post ⟨T.setVm vm₁, locs, cells, slots⟩ (Value.ref b :: argsL).toArray v B ∧
      ∀ target, Steps p.tables e below (B.U.setTop { g with pc := g.pc + 3, stack := v.toList ++ rest }) target → Steps p.tables e below (T.setTop g) target := by
  obtain ⟨mk, methM, hnamed, hmethM, hstM, habM⟩ := Cond.instanceMethod_spec hinst
  obtain ⟨m8, methM', cM, hn8, hmethM', -, -, -, -, -, -, hsigM⟩ := Cond.codeWith_spec hcode
  cases Option.some.inj (hn8.symm.trans hnamed)
  cases hmethM.symm.trans hmethM'
  obtain ⟨c2, r2, m2, q1, q2, q3, q4, kP, hkP, hkPi⟩ := Cond.selects_spec hsel
  cases hcls.symm.trans q1
  cases (State.methodFound?_of_named hnamed hy).symm.trans q2
  cases hnamed.symm.trans q3
  have hselP : selectMethod e.platform s.vm cellB.cls mk = .method mk := by rw [Launch.admits_selectMethod X.admits]; exact q4
  obtain ⟨vm₁, X₁, hstep₁⟩ := X.invokevirtual hexec hown hlink hnamed hmethM hstM hkP hkPi hy (a := b) (cell := cellB) hcell
    (fun z h => by rw [h] at hobj; cases hobj) hselP hmethM habM hkP hkPi (g := g) hg (argsL := argsL) (rest := rest) (hlen _ hsigM) hstack hdg
  obtain ⟨v, B, X', hpost, hsteps⟩ := hK m meth c ⟨T.setVm vm₁, locs, cells, slots⟩ { g with stack := rest } (.invokevirtual index) mk (Value.ref b :: argsL).toArray X₁ hg hsize hdg hW (X₁.named hnamed) (hpre vm₁ X₁.warmed)
  exact ⟨v, vm₁, B, X₁.warmed, X', hpost, fun target h => hstep₁ _ fun acts => by rw [doInvoke_state]; exact hsteps.trans h⟩
abbrev vx_CVW (R : Room) (s : State) (args : Array Value) (own C : String) (index : Nat) (y : MethodName) (bytes : ByteArray) (maxL : Nat) (ret : Option FieldType) (hh : List (Nat × Nat × Nat × Nat)) (ws : List Cond) (rm : Room) (mc ms n : Nat) : Prop :=
  (rm.cells = mc ∧ rm.slots = ms ∧ rm.frames + 1 ≤ R.frames ∧ 8 + (maxL + 11) + rm.locals ≤ R.locals ∧ (∀ w ∈ ws, ∀ (a' : Array Value) (U : State), s.WarmedH U.vm → w.before a' U = true) ∧ Cond.codeWith y bytes maxL ret hh ∈ ws) ∧
  (Cond.codeWith y bytes maxL ret hh).before args s = true ∧ (Cond.initialized y.cls).before args s = true ∧ (y.cls ≠ "java/lang/invoke/MethodHandle" ∧ y.cls ≠ "java/lang/invoke/VarHandle") ∧
  (∀ sig, parseMethodDescriptor y.desc = some sig → n = sig.parameters.length) ∧ (Cond.methodLink own index y).before args s = true ∧ (Cond.instanceMethod y).before args s = true ∧ (Cond.selects C y y).before args s = true
theorem vx_cwVW {own C : String} {index maxL mc ms : Nat} {y : MethodName} {bytes : ByteArray} {ret : Option FieldType} {hh : List (Nat × Nat × Nat × Nat)} {Ts ws ws' : List Cond} {rm : Room} (n : Nat) (ht : ∀ w ∈ Ts, w.before args s = true) (hT : GoodIn Ts (wsV own index C y ws)) (hw : ws = Cond.codeWith y bytes maxL ret hh :: ws') (hrc : rm.cells = mc) (hrs : rm.slots = ms)
    (hd : y.cls = C ∧ y.cls ≠ "java/lang/invoke/MethodHandle" ∧ y.cls ≠ "java/lang/invoke/VarHandle" ∧ (parseMethodDescriptor y.desc).map (fun d => d.parameters.length) = some n) (hR : rm.frames + 1 ≤ R.frames ∧ 8 + (maxL + 11) + rm.locals ≤ R.locals) :
    vx_CVW R s args own C index y bytes maxL ret hh ws rm mc ms n := by
  obtain ⟨hC, hd⟩ := hd
  subst hC
  have ok : ∀ w ∈ wsV own index y.cls y ws, w.before args s = true := fun w h => ht w (hT w h).1
  have hG : GoodIn Ts ws := fun w h => hT w (by unfold wsV; exact List.mem_append_right _ h)
  have hc : Cond.codeWith y bytes maxL ret hh ∈ ws := by rw [hw]; exact List.mem_cons_self
  refine ⟨⟨hrc, hrs, hR.1, hR.2, pay_in ht hG, hc⟩, ht _ (hG _ hc).1, ok _ (by simp [wsV]), ⟨hd.1, hd.2.1⟩, fun sig h => ?_, ok _ (by simp [wsV]), ok _ (by simp [wsV]), ok _ (by simp [wsV])⟩
  have h2 := hd.2.2
  rw [h] at h2
  exact (Option.some.inj h2).symm
theorem vx_runVW {y : MethodName} {bytes cc : ByteArray} {maxL nL mc ms n index : Nat} {ret : Option FieldType} {hh : List (Nat × Nat × Nat × Nat)} {ws : List Cond} {rm : Room} {Pc : Array Value → State → Prop} {Qc : Array Value → State → Outcome → State → Prop} {free : Addr → Prop} {Ts : List Cond} {own C : String} {b : Addr} {As rest : List Value} {g : JFrame}
    (S : CallFix p m c cc nL s args Ts own) (hM : Met l y ws rm Pc Qc mc ms free) (cw : vx_CVW R s args own C index y bytes maxL ret hh ws rm mc ms n) (hp : PreV s H C b Pc As)
    (hg : g.method = m) (hn : As.length = n) (hsize : g.locals.size = nL) (hstack : g.stack = As.reverse ++ .ref b :: rest) (hW : 2 * g.monitorRoom + (rest.map fun v => v.category).sum ≤ 8) (hdg : decode cc g.pc = .ok (.invokevirtual index, 3)) (hf : cells + mc ≤ R.cells ∧ slots + ms ≤ R.slots) :
    va_Run p l e R s m args below meth c H locs cells slots mc ms g rest (Qc (Value.ref b :: As).toArray) free := by
  obtain ⟨⟨hrc, hrs, hfr, hlo, hws, hcw⟩, hcode, hini, hy, hlen, hl, hin, hse⟩ := cw
  have hK : Back l R p e below s args y 3 8 (PreOf R mc ms Pc) (PostOf Qc mc ms free) := va_backW (hh := hh) (bytes := bytes) (maxL := maxL) (ret := ret) hM hp.1 hrc hrs hfr hlo hws hcw (fun a' U hW => word_at hW (Or.inl (by first | rfl | simp [Cond.onTables, Cond.keeps, Cond.steady])) hini)
  obtain ⟨hx, hb, hml, ho, -⟩ := S
  obtain ⟨-, ⟨cellB, hcB, hoB, hclB⟩, hPc⟩ := hp
  intro T hT X
  obtain ⟨v, vm₁, ⟨U', l2, c2, s2⟩, hW₁, X', ⟨g', mk, t, L, e1, e2, hq, h1, hL, h2, h3⟩, st⟩ := vx_callVW X hx (C := C) (hh := hh) (bytes := bytes) (maxL := maxL) (ret := ret) ho hl hin hse hcode hy hK (by rw [hT]; exact hcB) hoB hclB hg (hsize.trans hml.symm) (argsL := As) (rest := rest) (fun sig h => hn.trans (hlen sig h)) hstack hW (by rw [hb]; exact hdg)
    (fun vm₁ hW₁ => ⟨hf.1, hf.2, hPc (T.setVm vm₁) hT hW₁⟩)
  dsimp only [Pt.U, Pt.locs, Pt.cells, Pt.slots] at X' e1 e2 h1 h2 h3 st
  subst h1; subst h2; subst h3
  exact ⟨v, (T.setVm vm₁).calling g' mk (Value.ref b :: As).toArray, t, U', L, hT, X', hL, e1, e2, hq, st⟩
section
variable {y : MethodName} {bytes cc : ByteArray} {maxL nL mc ms n index : Nat} {ret : Option FieldType} {ws : List Cond} {rm : Room} {Pc : Array Value → State → Prop} {Qc : Array Value → State → Outcome → State → Prop} {XC : String → State → State → Prop} {free : Addr → Prop} {Ts : List Cond} {own C : String} {b : Addr} {As rest : List Value} {g : JFrame}
theorem vx_runVX {hh : List (Nat × Nat × Nat × Nat)} (S : CallFix p m c cc nL s args Ts own) (hM : vx_Met l y ws rm Pc Qc XC mc ms free) (cw : vx_CVW R s args own C index y bytes maxL ret hh ws rm mc ms n) (hp : PreV s H C b Pc As)
    (hg : g.method = m) (hn : As.length = n) (hsize : g.locals.size = nL) (hstack : g.stack = As.reverse ++ .ref b :: rest) (hW : 2 * g.monitorRoom + (rest.map fun v => v.category).sum ≤ 8) (hdg : decode cc g.pc = .ok (.invokevirtual index, 3)) (hf : cells + mc ≤ R.cells ∧ slots + ms ≤ R.slots) :
    vx_Run p l e R s m args below meth c H locs cells slots mc ms g rest (Qc (Value.ref b :: As).toArray) XC free := by
  obtain ⟨⟨hrc, hrs, hfr, hlo, hws, hcw⟩, hcode, hini, hy, hlen, hl, hin, hse⟩ := cw
  have hK : vx_Back l R p e below s args y 3 8 (PreOf R mc ms Pc) (PostOf Qc mc ms free) (vx_Post XC mc ms free) := vx_backW (hh := hh) (bytes := bytes) (maxL := maxL) (ret := ret) hM hp.1 hrc hrs hfr hlo hws hcw (fun a' U hW => word_at hW (Or.inl (by first | rfl | simp [Cond.onTables, Cond.keeps, Cond.steady])) hini)
  obtain ⟨hx, hb, hml, ho, -⟩ := S
  obtain ⟨-, ⟨cellB, hcB, hoB, hclB⟩, hPc⟩ := hp
  intro T hT X
  rcases vx_callVX X hx (C := C) (hh := hh) (bytes := bytes) (maxL := maxL) (ret := ret) ho hl hin hse hcode hy hK (by rw [hT]; exact hcB) hoB hclB hg (hsize.trans hml.symm) (argsL := As) (rest := rest) (fun sig h => hn.trans (hlen sig h)) hstack hW (by rw [hb]; exact hdg)
    (fun vm₁ hW₁ => ⟨hf.1, hf.2, hPc (T.setVm vm₁) hT hW₁⟩) with ⟨v, vm₁, ⟨U', l2, c2, s2⟩, hW₁, X', ⟨g', mk, t, L, e1, e2, hq, h1, hL, h2, h3⟩, st⟩ | ⟨q, vm₁, ⟨U', l2, c2, s2⟩, hW₁, X', ⟨g', mk, t, L, E, ce, e1, e2, hq, hce, hcv, hcl, h1, hL, h2, h3⟩, st⟩
  · dsimp only [Pt.U, Pt.locs, Pt.cells, Pt.slots] at X' e1 e2 h1 h2 h3 st
    subst h1; subst h2; subst h3
    exact Or.inl ⟨v, (T.setVm vm₁).calling g' mk (Value.ref b :: As).toArray, t, U', L, hT, X', hL, e1, e2, hq, st⟩
  · dsimp only [Pt.U, Pt.locs, Pt.cells, Pt.slots] at X' e1 e2 h1 h2 h3 st hcl
    subst h1; subst h2; subst h3
    exact Or.inr ⟨q, (T.setVm vm₁).calling g' mk (Value.ref b :: As).toArray, t, U', L, E, ce, hT, X', hL, e1, e2, hq, hce, hcv, vx_cls hW₁ hcl, st⟩
theorem vx_runSX {hh : List (Nat × Nat × Nat × Nat)} (S : CallFix p m c cc nL s args Ts own) (hM : vx_Met l y ws rm Pc Qc XC mc ms free) (cw : vx_CSW R s args own index y bytes maxL ret hh ws rm mc ms n) (hp : PreS s H Pc As)
    (hg : g.method = m) (hn : As.length = n) (hsize : g.locals.size = nL) (hstack : g.stack = As.reverse ++ rest) (hW : 2 * g.monitorRoom + (rest.map fun v => v.category).sum ≤ 8) (hdg : decode cc g.pc = .ok (.invokestatic index, 3)) (hf : cells + mc ≤ R.cells ∧ slots + ms ≤ R.slots) :
    vx_Run p l e R s m args below meth c H locs cells slots mc ms g rest (Qc As.toArray) XC free := by
  obtain ⟨⟨hrc, hrs, hfr, hlo, hws, hcw⟩, hcode, hini, hy, hlen, hl, hstt⟩ := cw
  have hK : vx_Back l R p e below s args y 3 8 (PreOf R mc ms Pc) (PostOf Qc mc ms free) (vx_Post XC mc ms free) := vx_backW (hh := hh) (bytes := bytes) (maxL := maxL) (ret := ret) hM hp.1 hrc hrs hfr hlo hws hcw (fun a' U hW => word_at hW (Or.inl (by first | rfl | simp [Cond.onTables, Cond.keeps, Cond.steady])) hini)
  obtain ⟨hx, hb, hml, ho, -⟩ := S
  intro T hT X
  rcases vx_callSX X hx (hh := hh) (bytes := bytes) (maxL := maxL) (ret := ret) ho hl hstt hini hcode hy hK hg (hsize.trans hml.symm) (argsL := As) (rest := rest) (fun sig h => hn.trans (hlen sig h)) hstack hW (by rw [hb]; exact hdg)
    (fun vm₁ hW₁ => ⟨hf.1, hf.2, hp.2 (T.setVm vm₁) hT hW₁⟩) with ⟨v, vm₁, ⟨U', l2, c2, s2⟩, hW₁, X', ⟨g', mk, t, L, e1, e2, hq, h1, hL, h2, h3⟩, st⟩ | ⟨q, vm₁, ⟨U', l2, c2, s2⟩, hW₁, X', ⟨g', mk, t, L, E, ce, e1, e2, hq, hce, hcv, hcl, h1, hL, h2, h3⟩, st⟩
  · dsimp only [Pt.U, Pt.locs, Pt.cells, Pt.slots] at X' e1 e2 h1 h2 h3 st
    subst h1; subst h2; subst h3
    exact Or.inl ⟨v, (T.setVm vm₁).calling g' mk As.toArray, t, U', L, hT, X', hL, e1, e2, hq, st⟩
  · dsimp only [Pt.U, Pt.locs, Pt.cells, Pt.slots] at X' e1 e2 h1 h2 h3 st hcl
    subst h1; subst h2; subst h3
    exact Or.inr ⟨q, (T.setVm vm₁).calling g' mk As.toArray, t, U', L, E, ce, hT, X', hL, e1, e2, hq, hce, hcv, vx_cls hW₁ hcl, st⟩
end
end VXH
theorem vx_ofWH {l : Launch} {y : MethodName} {ws ws' : List Cond} {rm : Room} {Pc : Array Value → State → Prop} {Qc : Array Value → State → Outcome → State → Prop} {XC : String → State → State → Prop} {mc ms : Nat} {free : Addr → Prop} {cc : ByteArray} {maxL : Nat} {ret : Option FieldType} {hh : List (Nat × Nat × Nat × Nat)}
    (hy : plainName y.cls = true) (hw : ws = Cond.codeWith y cc maxL ret hh :: ws')
    (body : ∀ p e s m args below meth c s₁, BodyLoose p l y (headSpec ws rm) cc maxL ret e s m args below meth c s₁ → c.maxLocals = maxL → Pc args s →
      W p l e (headSpec ws rm).room s m args below meth c s.heap [] 0 0 (vx_MQ below Qc XC args s mc ms free) (entryFrame m args maxL)) : vx_Met l y ws rm Pc Qc XC mc ms free := by
  refine MetFree.of_bodyS (code := cc) (maxLocals := maxL) (ret := ret) hy ?_ ?_
  · intro args s m h hn
    obtain ⟨m9, meth, c, hn9, h1, h2, h3, h4, -, h5, h6, -⟩ := Cond.codeWith_spec (atoms_spec (ws := ws) h _ (by rw [hw]; exact List.mem_cons_self))
    cases hn.symm.trans hn9
    exact ⟨meth, c, h1, h2, h3, h4, h5, h6⟩
  · intro p e s m args below meth c s₁ B hml hP _
    have hh0 : s₁.heap = s.heap := by rw [B.state]; rfl
    obtain ⟨t, a1, o, b1, b2, b3⟩ := body p e s m args below meth c s₁ B hml hP s₁ hh0 (Stand.of_body B)
    exact ⟨t, o, a1, b1, b2, b3⟩
/-! ===== END ===== -/
end
section

/-! ===== BEGIN printed: names, fields, word lists, decode rows ===== -/
def RX0 : String := "CircleOfLeaves$Article"
def TX0 : u_T := fun k => match k with
  | 0 => ("CircleOfLeaves$Article", "headword", "LCircleOfLeaves$Headword;", true)
  | 1 => ("CircleOfLeaves$Article", "references", "[LCircleOfLeaves$Reference;", true)
  | 2 => ("CircleOfLeaves$Article", "usesFact", "[Z", true)
  | 3 => ("CircleOfLeaves$Article", "toldValues", "[I", true)
  | 4 => ("CircleOfLeaves$Article", "referenceCount", "I", false)
  | 5 => ("CircleOfLeaves$Article", "subject", "I", false)
  | 6 => ("CircleOfLeaves$Article", "worth", "I", false)
  | 7 => ("CircleOfLeaves$Article", "contributor", "I", false)
  | 8 => ("CircleOfLeaves$Article", "endMonth", "I", false)
  | 9 => ("CircleOfLeaves$Article", "hasText", "Z", false)
  | 10 => ("CircleOfLeaves$Article", "isForbidden", "Z", false)
  | _ => ("CircleOfLeaves$Article", "isPrinted", "Z", false)
def tyX0 : Nat → FieldType := fun k => match k with
  | 0 => .object "CircleOfLeaves$Headword"
  | 1 => .array (.object "CircleOfLeaves$Reference")
  | 2 => .array .boolean
  | 3 => .array .int
  | 4 => .int
  | 5 => .int
  | 6 => .int
  | 7 => .int
  | 8 => .int
  | 9 => .boolean
  | 10 => .boolean
  | _ => .boolean
abbrev wsX00 : List Cond := u_ws RX0 TX0 12
theorem nmX0 : ∀ a, a < 12 → ∀ b, b < 12 → a ≠ b → (TX0 a).2.1 ≠ (TX0 b).2.1 := by decide +kernel
theorem tyX0_ok : ∀ k, k < 12 → parseFieldDescriptor (TX0 k).2.2.1 = some (tyX0 k) := by decide +kernel
abbrev cX0_init : ByteArray := prog_2_method_1_code
def yX0_init : MethodName := ⟨RX0, "<init>", "()V"⟩
abbrev cX0_isBlind : ByteArray := prog_2_method_2_code
def yX0_isBlind : MethodName := ⟨RX0, "isBlind", "()Z"⟩
abbrev cX0_isReady : ByteArray := prog_2_method_3_code
def yX0_isReady : MethodName := ⟨RX0, "isReady", "()Z"⟩
abbrev cX0_isReadIn : ByteArray := prog_2_method_4_code
def yX0_isReadIn : MethodName := ⟨RX0, "isReadIn", "(Z)Z"⟩
abbrev cX0_state : ByteArray := prog_2_method_5_code
def yX0_state : MethodName := ⟨RX0, "state", "()I"⟩
abbrev cX0_putToPress : ByteArray := prog_2_method_6_code
def yX0_putToPress : MethodName := ⟨RX0, "putToPress", "([I)V"⟩
abbrev cX0_countReferences : ByteArray := prog_2_method_7_code
def yX0_countReferences : MethodName := ⟨RX0, "countReferences", "(LCircleOfLeaves$Fate;)I"⟩
def RX1 : String := "CircleOfLeaves$Contributor"
def TX1 : u_T := fun k => match k with
  | 0 => ("CircleOfLeaves$Contributor", "toWrite", "[I", true)
  | 1 => ("CircleOfLeaves$Contributor", "hasQuarrelledWith", "[Z", true)
  | 2 => ("CircleOfLeaves$Contributor", "toWriteCount", "I", false)
  | 3 => ("CircleOfLeaves$Contributor", "pace", "I", false)
  | 4 => ("CircleOfLeaves$Contributor", "errataOwned", "I", false)
  | _ => ("CircleOfLeaves$Contributor", "isDead", "Z", false)
def tyX1 : Nat → FieldType := fun k => match k with
  | 0 => .array .int
  | 1 => .array .boolean
  | 2 => .int
  | 3 => .int
  | 4 => .int
  | _ => .boolean
abbrev wsX10 : List Cond := u_ws RX1 TX1 6
theorem nmX1 : ∀ a, a < 6 → ∀ b, b < 6 → a ≠ b → (TX1 a).2.1 ≠ (TX1 b).2.1 := by decide +kernel
theorem tyX1_ok : ∀ k, k < 6 → parseFieldDescriptor (TX1 k).2.2.1 = some (tyX1 k) := by decide +kernel
abbrev cX1_init : ByteArray := prog_3_method_1_code
def yX1_init : MethodName := ⟨RX1, "<init>", "()V"⟩
abbrev cX1_addToWrite : ByteArray := prog_3_method_2_code
def yX1_addToWrite : MethodName := ⟨RX1, "addToWrite", "(I)V"⟩
abbrev cX1_removeFirst : ByteArray := prog_3_method_3_code
def yX1_removeFirst : MethodName := ⟨RX1, "removeFirst", "()V"⟩
abbrev cX1_monthsFor : ByteArray := prog_3_method_4_code
def yX1_monthsFor : MethodName := ⟨RX1, "monthsFor", "(I)I"⟩
def RX2 : String := "CircleOfLeaves$Fate"
def TX2 : u_T := fun k => match k with
  | _ => ("", "", "", false)
def tyX2 : Nat → FieldType := fun k => match k with
  | _ => .int
abbrev wsX20 : List Cond := u_ws RX2 TX2 0
theorem nmX2 : ∀ a, a < 0 → ∀ b, b < 0 → a ≠ b → (TX2 a).2.1 ≠ (TX2 b).2.1 := by decide +kernel
theorem tyX2_ok : ∀ k, k < 0 → parseFieldDescriptor (TX2 k).2.2.1 = some (tyX2 k) := by decide +kernel
def RX3 : String := "CircleOfLeaves$Headword"
def TX3 : u_T := fun k => match k with
  | 0 => ("CircleOfLeaves$Headword", "signs", "[C", true)
  | 1 => ("CircleOfLeaves$Headword", "letters", "[C", true)
  | 2 => ("CircleOfLeaves$Headword", "signCount", "I", false)
  | _ => ("CircleOfLeaves$Headword", "letterCount", "I", false)
def tyX3 : Nat → FieldType := fun k => match k with
  | 0 => .array .char
  | 1 => .array .char
  | 2 => .int
  | _ => .int
abbrev wsX30 : List Cond := u_ws RX3 TX3 4
theorem nmX3 : ∀ a, a < 4 → ∀ b, b < 4 → a ≠ b → (TX3 a).2.1 ≠ (TX3 b).2.1 := by decide +kernel
theorem tyX3_ok : ∀ k, k < 4 → parseFieldDescriptor (TX3 k).2.2.1 = some (tyX3 k) := by decide +kernel
abbrev cX3_init : ByteArray := prog_5_method_1_code
def yX3_init : MethodName := ⟨RX3, "<init>", "()V"⟩
abbrev cX3_add : ByteArray := prog_5_method_2_code
def yX3_add : MethodName := ⟨RX3, "add", "(C)V"⟩
abbrev cX3_clear : ByteArray := prog_5_method_3_code
def yX3_clear : MethodName := ⟨RX3, "clear", "()V"⟩
abbrev cX3_take : ByteArray := prog_5_method_4_code
def yX3_take : MethodName := ⟨RX3, "take", "(LCircleOfLeaves$Headword;)V"⟩
abbrev cX3_hasLetter : ByteArray := prog_5_method_5_code
def yX3_hasLetter : MethodName := ⟨RX3, "hasLetter", "()Z"⟩
abbrev cX3_firstLetter : ByteArray := prog_5_method_6_code
def yX3_firstLetter : MethodName := ⟨RX3, "firstLetter", "()C"⟩
abbrev cX3_compareBy : ByteArray := prog_5_method_7_code
def yX3_compareBy : MethodName := ⟨RX3, "compareBy", "(ZLCircleOfLeaves$Headword;)I"⟩
def RX4 : String := "CircleOfLeaves$Reference"
def TX4 : u_T := fun k => match k with
  | 0 => ("CircleOfLeaves$Reference", "headword", "LCircleOfLeaves$Headword;", true)
  | _ => ("CircleOfLeaves$Reference", "fate", "LCircleOfLeaves$Fate;", false)
def tyX4 : Nat → FieldType := fun k => match k with
  | 0 => .object "CircleOfLeaves$Headword"
  | _ => .object "CircleOfLeaves$Fate"
abbrev wsX40 : List Cond := u_ws RX4 TX4 2
theorem nmX4 : ∀ a, a < 2 → ∀ b, b < 2 → a ≠ b → (TX4 a).2.1 ≠ (TX4 b).2.1 := by decide +kernel
theorem tyX4_ok : ∀ k, k < 2 → parseFieldDescriptor (TX4 k).2.2.1 = some (tyX4 k) := by decide +kernel
abbrev cX4_init : ByteArray := prog_6_method_1_code
def yX4_init : MethodName := ⟨RX4, "<init>", "()V"⟩
def RX5 : String := "CircleOfLeaves$Volume"
def TX5 : u_T := fun k => match k with
  | 0 => ("CircleOfLeaves$Volume", "lastLetter", "C", false)
  | _ => ("CircleOfLeaves$Volume", "budget", "I", false)
def tyX5 : Nat → FieldType := fun k => match k with
  | 0 => .char
  | _ => .int
abbrev wsX50 : List Cond := u_ws RX5 TX5 2
theorem nmX5 : ∀ a, a < 2 → ∀ b, b < 2 → a ≠ b → (TX5 a).2.1 ≠ (TX5 b).2.1 := by decide +kernel
theorem tyX5_ok : ∀ k, k < 2 → parseFieldDescriptor (TX5 k).2.2.1 = some (tyX5 k) := by decide +kernel
abbrev cX5_init : ByteArray := prog_7_method_1_code
def yX5_init : MethodName := ⟨RX5, "<init>", "()V"⟩
def RX6 : String := "CircleOfLeaves"
def TX6 : u_T := fun k => match k with
  | 0 => ("CircleOfLeaves", "draft", "LCircleOfLeaves$Headword;", true)
  | 1 => ("CircleOfLeaves", "articles", "[LCircleOfLeaves$Article;", true)
  | 2 => ("CircleOfLeaves", "volumes", "[LCircleOfLeaves$Volume;", true)
  | 3 => ("CircleOfLeaves", "contributors", "[LCircleOfLeaves$Contributor;", true)
  | 4 => ("CircleOfLeaves", "subjectAbove", "[I", true)
  | 5 => ("CircleOfLeaves", "factValues", "[I", true)
  | 6 => ("CircleOfLeaves", "articleCount", "I", false)
  | 7 => ("CircleOfLeaves", "volumeCount", "I", false)
  | 8 => ("CircleOfLeaves", "printedVolumes", "I", false)
  | 9 => ("CircleOfLeaves", "contributorCount", "I", false)
  | 10 => ("CircleOfLeaves", "monthNow", "I", false)
  | _ => ("CircleOfLeaves", "isRuledByWords", "Z", false)
def tyX6 : Nat → FieldType := fun k => match k with
  | 0 => .object "CircleOfLeaves$Headword"
  | 1 => .array (.object "CircleOfLeaves$Article")
  | 2 => .array (.object "CircleOfLeaves$Volume")
  | 3 => .array (.object "CircleOfLeaves$Contributor")
  | 4 => .array .int
  | 5 => .array .int
  | 6 => .int
  | 7 => .int
  | 8 => .int
  | 9 => .int
  | 10 => .int
  | _ => .boolean
abbrev wsX60 : List Cond := u_ws RX6 TX6 12
theorem nmX6 : ∀ a, a < 12 → ∀ b, b < 12 → a ≠ b → (TX6 a).2.1 ≠ (TX6 b).2.1 := by decide +kernel
theorem tyX6_ok : ∀ k, k < 12 → parseFieldDescriptor (TX6 k).2.2.1 = some (tyX6 k) := by decide +kernel
abbrev cX6_init : ByteArray := prog_1_method_1_code
def yX6_init : MethodName := ⟨RX6, "<init>", "()V"⟩
abbrev cX6_sign : ByteArray := prog_1_method_2_code
def yX6_sign : MethodName := ⟨RX6, "sign", "(C)I"⟩
abbrev cX6_erase : ByteArray := prog_1_method_3_code
def yX6_erase : MethodName := ⟨RX6, "erase", "()I"⟩
abbrev cX6_rule : ByteArray := prog_1_method_4_code
def yX6_rule : MethodName := ⟨RX6, "rule", "(Z)Z"⟩
abbrev cX6_article : ByteArray := prog_1_method_5_code
def yX6_article : MethodName := ⟨RX6, "article", "(II)I"⟩
abbrev cX6_under : ByteArray := prog_1_method_6_code
def yX6_under : MethodName := ⟨RX6, "under", "(II)I"⟩
abbrev cX6_refer : ByteArray := prog_1_method_7_code
def yX6_refer : MethodName := ⟨RX6, "refer", "(I)I"⟩
abbrev cX6_use : ByteArray := prog_1_method_8_code
def yX6_use : MethodName := ⟨RX6, "use", "(II)Z"⟩
abbrev cX6_change : ByteArray := prog_1_method_9_code
def yX6_change : MethodName := ⟨RX6, "change", "(II)I"⟩
abbrev cX6_forbid : ByteArray := prog_1_method_10_code
def yX6_forbid : MethodName := ⟨RX6, "forbid", "(IZ)Z"⟩
abbrev cX6_volume : ByteArray := prog_1_method_11_code
def yX6_volume : MethodName := ⟨RX6, "volume", "(CI)I"⟩
abbrev cX6_contributor : ByteArray := prog_1_method_12_code
def yX6_contributor : MethodName := ⟨RX6, "contributor", "(I)I"⟩
abbrev cX6_quarrel : ByteArray := prog_1_method_13_code
def yX6_quarrel : MethodName := ⟨RX6, "quarrel", "(II)Z"⟩
abbrev cX6_give : ByteArray := prog_1_method_14_code
def yX6_give : MethodName := ⟨RX6, "give", "(II)I"⟩
abbrev cX6_die : ByteArray := prog_1_method_15_code
def yX6_die : MethodName := ⟨RX6, "die", "(I)I"⟩
abbrev cX6_pass : ByteArray := prog_1_method_16_code
def yX6_pass : MethodName := ⟨RX6, "pass", "(I)I"⟩
abbrev cX6_print : ByteArray := prog_1_method_17_code
def yX6_print : MethodName := ⟨RX6, "print", "(I)I"⟩
abbrev cX6_supplement : ByteArray := prog_1_method_18_code
def yX6_supplement : MethodName := ⟨RX6, "supplement", "()I"⟩
abbrev cX6_month : ByteArray := prog_1_method_19_code
def yX6_month : MethodName := ⟨RX6, "month", "()I"⟩
abbrev cX6_at : ByteArray := prog_1_method_20_code
def yX6_at : MethodName := ⟨RX6, "at", "(I)I"⟩
abbrev cX6_about : ByteArray := prog_1_method_21_code
def yX6_about : MethodName := ⟨RX6, "about", "(II)I"⟩
abbrev cX6_struck : ByteArray := prog_1_method_22_code
def yX6_struck : MethodName := ⟨RX6, "struck", "()I"⟩
abbrev cX6_errata : ByteArray := prog_1_method_23_code
def yX6_errata : MethodName := ⟨RX6, "errata", "(I)I"⟩
abbrev cX6_open : ByteArray := prog_1_method_24_code
def yX6_open : MethodName := ⟨RX6, "open", "(Z)I"⟩
abbrev cX6_contradictions : ByteArray := prog_1_method_25_code
def yX6_contradictions : MethodName := ⟨RX6, "contradictions", "(Z)I"⟩
abbrev cX6_readAnew : ByteArray := prog_1_method_26_code
def yX6_readAnew : MethodName := ⟨RX6, "readAnew", "(Z)I"⟩
abbrev cX6_synopsis : ByteArray := prog_1_method_27_code
def yX6_synopsis : MethodName := ⟨RX6, "synopsis", "(I)I"⟩
abbrev cX6_requireArticle : ByteArray := prog_1_method_28_code
def yX6_requireArticle : MethodName := ⟨RX6, "requireArticle", "(I)V"⟩
abbrev cX6_requireVolume : ByteArray := prog_1_method_29_code
def yX6_requireVolume : MethodName := ⟨RX6, "requireVolume", "(I)V"⟩
abbrev cX6_requireContributor : ByteArray := prog_1_method_30_code
def yX6_requireContributor : MethodName := ⟨RX6, "requireContributor", "(I)V"⟩
abbrev cX6_requireSubject : ByteArray := prog_1_method_31_code
def yX6_requireSubject : MethodName := ⟨RX6, "requireSubject", "(I)V"⟩
abbrev cX6_requireFact : ByteArray := prog_1_method_32_code
def yX6_requireFact : MethodName := ⟨RX6, "requireFact", "(I)V"⟩
abbrev cX6_isLetter : ByteArray := prog_1_method_33_code
def yX6_isLetter : MethodName := ⟨RX6, "isLetter", "(C)Z"⟩
abbrev cX6_isGap : ByteArray := prog_1_method_34_code
def yX6_isGap : MethodName := ⟨RX6, "isGap", "(C)Z"⟩
abbrev cX6_areAlike : ByteArray := prog_1_method_35_code
def yX6_areAlike : MethodName := ⟨RX6, "areAlike", "(LCircleOfLeaves$Headword;LCircleOfLeaves$Headword;)Z"⟩
abbrev cX6_comesAhead : ByteArray := prog_1_method_36_code
def yX6_comesAhead : MethodName := ⟨RX6, "comesAhead", "(II)Z"⟩
abbrev cX6_placeOf : ByteArray := prog_1_method_37_code
def yX6_placeOf : MethodName := ⟨RX6, "placeOf", "(I)I"⟩
abbrev cX6_volumeOf : ByteArray := prog_1_method_38_code
def yX6_volumeOf : MethodName := ⟨RX6, "volumeOf", "(LCircleOfLeaves$Headword;)I"⟩
abbrev cX6_isOfPrintedVolume : ByteArray := prog_1_method_39_code
def yX6_isOfPrintedVolume : MethodName := ⟨RX6, "isOfPrintedVolume", "(LCircleOfLeaves$Headword;)Z"⟩
abbrev cX6_columnsOf : ByteArray := prog_1_method_40_code
def yX6_columnsOf : MethodName := ⟨RX6, "columnsOf", "(I)I"⟩
abbrev cX6_worthsIn : ByteArray := prog_1_method_41_code
def yX6_worthsIn : MethodName := ⟨RX6, "worthsIn", "(I)I"⟩
abbrev cX6_isToBeGiven : ByteArray := prog_1_method_42_code
def yX6_isToBeGiven : MethodName := ⟨RX6, "isToBeGiven", "(LCircleOfLeaves$Article;)Z"⟩
abbrev cX6_isAmongEnemies : ByteArray := prog_1_method_43_code
def yX6_isAmongEnemies : MethodName := ⟨RX6, "isAmongEnemies", "(LCircleOfLeaves$Article;LCircleOfLeaves$Contributor;)Z"⟩
abbrev cX6_refersTo : ByteArray := prog_1_method_44_code
def yX6_refersTo : MethodName := ⟨RX6, "refersTo", "(LCircleOfLeaves$Article;LCircleOfLeaves$Article;)Z"⟩
abbrev cX6_beginFirst : ByteArray := prog_1_method_45_code
def yX6_beginFirst : MethodName := ⟨RX6, "beginFirst", "(LCircleOfLeaves$Contributor;)V"⟩
abbrev cX6_endsAnArticle : ByteArray := prog_1_method_46_code
def yX6_endsAnArticle : MethodName := ⟨RX6, "endsAnArticle", "(LCircleOfLeaves$Contributor;)Z"⟩
abbrev cX6_putToPressFrom : ByteArray := prog_1_method_47_code
def yX6_putToPressFrom : MethodName := ⟨RX6, "putToPressFrom", "(I)I"⟩
abbrev cX6_lookAtReferences : ByteArray := prog_1_method_48_code
def yX6_lookAtReferences : MethodName := ⟨RX6, "lookAtReferences", "()V"⟩
abbrev cX6_fateOf : ByteArray := prog_1_method_49_code
def yX6_fateOf : MethodName := ⟨RX6, "fateOf", "(LCircleOfLeaves$Headword;)LCircleOfLeaves$Fate;"⟩
abbrev cX6_isThere : ByteArray := prog_1_method_50_code
def yX6_isThere : MethodName := ⟨RX6, "isThere", "(LCircleOfLeaves$Headword;)Z"⟩
abbrev cX6_isBroken : ByteArray := prog_1_method_51_code
def yX6_isBroken : MethodName := ⟨RX6, "isBroken", "(LCircleOfLeaves$Reference;)Z"⟩
abbrev cX6_countBroken : ByteArray := prog_1_method_52_code
def yX6_countBroken : MethodName := ⟨RX6, "countBroken", "(LCircleOfLeaves$Article;)I"⟩
abbrev cX6_tellFacts : ByteArray := prog_1_method_53_code
def yX6_tellFacts : MethodName := ⟨RX6, "tellFacts", "()I"⟩
abbrev cX6_addErratum : ByteArray := prog_1_method_54_code
def yX6_addErratum : MethodName := ⟨RX6, "addErratum", "(I)V"⟩
abbrev cX6_tellPromises : ByteArray := prog_1_method_55_code
def yX6_tellPromises : MethodName := ⟨RX6, "tellPromises", "()I"⟩
abbrev cX6_isContradicted : ByteArray := prog_1_method_56_code
def yX6_isContradicted : MethodName := ⟨RX6, "isContradicted", "(IZ)Z"⟩
abbrev cX6_isWithin : ByteArray := prog_1_method_57_code
def yX6_isWithin : MethodName := ⟨RX6, "isWithin", "(II)Z"⟩
def RX7 : String := "CircleOfLeavesModel"
def TX7 : u_T := fun k => match k with
  | 0 => ("CircleOfLeavesModel", "isByWords", "Z", false)
  | 1 => ("CircleOfLeavesModel", "signs", "[I", true)
  | 2 => ("CircleOfLeavesModel", "longs", "[I", true)
  | 3 => ("CircleOfLeavesModel", "articles", "I", false)
  | 4 => ("CircleOfLeavesModel", "subjects", "[I", true)
  | 5 => ("CircleOfLeavesModel", "worths", "[I", true)
  | 6 => ("CircleOfLeavesModel", "states", "[I", true)
  | 7 => ("CircleOfLeavesModel", "writers", "[I", true)
  | 8 => ("CircleOfLeavesModel", "due", "[I", true)
  | 9 => ("CircleOfLeavesModel", "nth", "[I", true)
  | 10 => ("CircleOfLeavesModel", "isForbidden", "[Z", true)
  | 11 => ("CircleOfLeavesModel", "references", "[I", true)
  | 12 => ("CircleOfLeavesModel", "looked", "[I", true)
  | 13 => ("CircleOfLeavesModel", "uses", "[Z", true)
  | 14 => ("CircleOfLeavesModel", "told", "[I", true)
  | 15 => ("CircleOfLeavesModel", "above", "[I", true)
  | 16 => ("CircleOfLeavesModel", "facts", "[I", true)
  | 17 => ("CircleOfLeavesModel", "volumes", "I", false)
  | 18 => ("CircleOfLeavesModel", "lasts", "[I", true)
  | 19 => ("CircleOfLeavesModel", "budgets", "[I", true)
  | 20 => ("CircleOfLeavesModel", "printed", "I", false)
  | 21 => ("CircleOfLeavesModel", "contributors", "I", false)
  | 22 => ("CircleOfLeavesModel", "paces", "[I", true)
  | 23 => ("CircleOfLeavesModel", "isDead", "[Z", true)
  | 24 => ("CircleOfLeavesModel", "quarrels", "[Z", true)
  | 25 => ("CircleOfLeavesModel", "errata", "[I", true)
  | 26 => ("CircleOfLeavesModel", "given", "I", false)
  | 27 => ("CircleOfLeavesModel", "month", "I", false)
  | 28 => ("CircleOfLeavesModel", "struck", "I", false)
  | _ => ("CircleOfLeavesModel", "thrown", "I", false)
def tyX7 : Nat → FieldType := fun k => match k with
  | 0 => .boolean
  | 1 => .array .int
  | 2 => .array .int
  | 3 => .int
  | 4 => .array .int
  | 5 => .array .int
  | 6 => .array .int
  | 7 => .array .int
  | 8 => .array .int
  | 9 => .array .int
  | 10 => .array .boolean
  | 11 => .array .int
  | 12 => .array .int
  | 13 => .array .boolean
  | 14 => .array .int
  | 15 => .array .int
  | 16 => .array .int
  | 17 => .int
  | 18 => .array .int
  | 19 => .array .int
  | 20 => .int
  | 21 => .int
  | 22 => .array .int
  | 23 => .array .boolean
  | 24 => .array .boolean
  | 25 => .array .int
  | 26 => .int
  | 27 => .int
  | 28 => .int
  | _ => .int
abbrev wsX70 : List Cond := u_ws RX7 TX7 30
theorem nmX7 : ∀ a, a < 30 → ∀ b, b < 30 → a ≠ b → (TX7 a).2.1 ≠ (TX7 b).2.1 := by decide +kernel
theorem tyX7_ok : ∀ k, k < 30 → parseFieldDescriptor (TX7 k).2.2.1 = some (tyX7 k) := by decide +kernel
abbrev cX7_init : ByteArray := prog_9_method_1_code
def yX7_init : MethodName := ⟨RX7, "<init>", "()V"⟩
abbrev cX7_thrown : ByteArray := prog_9_method_2_code
def yX7_thrown : MethodName := ⟨RX7, "thrown", "()I"⟩
abbrev cX7_goes : ByteArray := prog_9_method_3_code
def yX7_goes : MethodName := ⟨RX7, "goes", "(I)Z"⟩
abbrev cX7_isIn : ByteArray := prog_9_method_4_code
def yX7_isIn : MethodName := ⟨RX7, "isIn", "(III)Z"⟩
abbrev cX7_isArticle : ByteArray := prog_9_method_5_code
def yX7_isArticle : MethodName := ⟨RX7, "isArticle", "(I)Z"⟩
abbrev cX7_isContributor : ByteArray := prog_9_method_6_code
def yX7_isContributor : MethodName := ⟨RX7, "isContributor", "(I)Z"⟩
abbrev cX7_isSubject : ByteArray := prog_9_method_7_code
def yX7_isSubject : MethodName := ⟨RX7, "isSubject", "(I)Z"⟩
abbrev cX7_isFact : ByteArray := prog_9_method_8_code
def yX7_isFact : MethodName := ⟨RX7, "isFact", "(I)Z"⟩
abbrev cX7_next : ByteArray := prog_9_method_9_code
def yX7_next : MethodName := ⟨RX7, "next", "(II)I"⟩
abbrev cX7_order : ByteArray := prog_9_method_10_code
def yX7_order : MethodName := ⟨RX7, "order", "(II)I"⟩
abbrev cX7_firstLetter : ByteArray := prog_9_method_11_code
def yX7_firstLetter : MethodName := ⟨RX7, "firstLetter", "(I)I"⟩
abbrev cX7_volumeOf : ByteArray := prog_9_method_12_code
def yX7_volumeOf : MethodName := ⟨RX7, "volumeOf", "(I)I"⟩
abbrev cX7_takes : ByteArray := prog_9_method_13_code
def yX7_takes : MethodName := ⟨RX7, "takes", "(I)V"⟩
abbrev cX7_sign : ByteArray := prog_9_method_14_code
def yX7_sign : MethodName := ⟨RX7, "sign", "(C)I"⟩
abbrev cX7_erase : ByteArray := prog_9_method_15_code
def yX7_erase : MethodName := ⟨RX7, "erase", "()I"⟩
abbrev cX7_rule : ByteArray := prog_9_method_16_code
def yX7_rule : MethodName := ⟨RX7, "rule", "(Z)Z"⟩
abbrev cX7_article : ByteArray := prog_9_method_17_code
def yX7_article : MethodName := ⟨RX7, "article", "(II)I"⟩
abbrev cX7_under : ByteArray := prog_9_method_18_code
def yX7_under : MethodName := ⟨RX7, "under", "(II)I"⟩
abbrev cX7_reference : ByteArray := prog_9_method_19_code
def yX7_reference : MethodName := ⟨RX7, "reference", "(II)I"⟩
abbrev cX7_refer : ByteArray := prog_9_method_20_code
def yX7_refer : MethodName := ⟨RX7, "refer", "(I)I"⟩
abbrev cX7_use : ByteArray := prog_9_method_21_code
def yX7_use : MethodName := ⟨RX7, "use", "(II)Z"⟩
abbrev cX7_change : ByteArray := prog_9_method_22_code
def yX7_change : MethodName := ⟨RX7, "change", "(II)I"⟩
abbrev cX7_forbid : ByteArray := prog_9_method_23_code
def yX7_forbid : MethodName := ⟨RX7, "forbid", "(IZ)Z"⟩
abbrev cX7_volume : ByteArray := prog_9_method_24_code
def yX7_volume : MethodName := ⟨RX7, "volume", "(CI)I"⟩
abbrev cX7_isAhead : ByteArray := prog_9_method_25_code
def yX7_isAhead : MethodName := ⟨RX7, "isAhead", "(II)Z"⟩
abbrev cX7_columns : ByteArray := prog_9_method_26_code
def yX7_columns : MethodName := ⟨RX7, "columns", "(I)I"⟩
abbrev cX7_contributor : ByteArray := prog_9_method_27_code
def yX7_contributor : MethodName := ⟨RX7, "contributor", "(I)I"⟩
abbrev cX7_quarrel : ByteArray := prog_9_method_28_code
def yX7_quarrel : MethodName := ⟨RX7, "quarrel", "(II)Z"⟩
abbrev cX7_refersTo : ByteArray := prog_9_method_29_code
def yX7_refersTo : MethodName := ⟨RX7, "refersTo", "(II)Z"⟩
abbrev cX7_isBarred : ByteArray := prog_9_method_30_code
def yX7_isBarred : MethodName := ⟨RX7, "isBarred", "(II)Z"⟩
abbrev cX7_canBeGiven : ByteArray := prog_9_method_31_code
def yX7_canBeGiven : MethodName := ⟨RX7, "canBeGiven", "(II)Z"⟩
abbrev cX7_toWrite : ByteArray := prog_9_method_32_code
def yX7_toWrite : MethodName := ⟨RX7, "toWrite", "(I)I"⟩
abbrev cX7_first : ByteArray := prog_9_method_33_code
def yX7_first : MethodName := ⟨RX7, "first", "(I)I"⟩
abbrev cX7_begins : ByteArray := prog_9_method_34_code
def yX7_begins : MethodName := ⟨RX7, "begins", "(II)V"⟩
abbrev cX7_give : ByteArray := prog_9_method_35_code
def yX7_give : MethodName := ⟨RX7, "give", "(II)I"⟩
abbrev cX7_die : ByteArray := prog_9_method_36_code
def yX7_die : MethodName := ⟨RX7, "die", "(I)I"⟩
abbrev cX7_pass : ByteArray := prog_9_method_37_code
def yX7_pass : MethodName := ⟨RX7, "pass", "(I)I"⟩
abbrev cX7_isPrinted : ByteArray := prog_9_method_38_code
def yX7_isPrinted : MethodName := ⟨RX7, "isPrinted", "(I)Z"⟩
abbrev cX7_isPromise : ByteArray := prog_9_method_39_code
def yX7_isPromise : MethodName := ⟨RX7, "isPromise", "(I)Z"⟩
abbrev cX7_prints : ByteArray := prog_9_method_40_code
def yX7_prints : MethodName := ⟨RX7, "prints", "(II)I"⟩
abbrev cX7_print : ByteArray := prog_9_method_41_code
def yX7_print : MethodName := ⟨RX7, "print", "(I)I"⟩
abbrev cX7_isOpen : ByteArray := prog_9_method_42_code
def yX7_isOpen : MethodName := ⟨RX7, "isOpen", "(II)Z"⟩
abbrev cX7_supplement : ByteArray := prog_9_method_43_code
def yX7_supplement : MethodName := ⟨RX7, "supplement", "()I"⟩
abbrev cX7_month : ByteArray := prog_9_method_44_code
def yX7_month : MethodName := ⟨RX7, "month", "()I"⟩
abbrev cX7_at : ByteArray := prog_9_method_45_code
def yX7_at : MethodName := ⟨RX7, "at", "(I)I"⟩
abbrev cX7_about : ByteArray := prog_9_method_46_code
def yX7_about : MethodName := ⟨RX7, "about", "(II)I"⟩
abbrev cX7_struck : ByteArray := prog_9_method_47_code
def yX7_struck : MethodName := ⟨RX7, "struck", "()I"⟩
abbrev cX7_errata : ByteArray := prog_9_method_48_code
def yX7_errata : MethodName := ⟨RX7, "errata", "(I)I"⟩
abbrev cX7_opens : ByteArray := prog_9_method_49_code
def yX7_opens : MethodName := ⟨RX7, "opens", "(Z)I"⟩
abbrev cX7_open : ByteArray := prog_9_method_50_code
def yX7_open : MethodName := ⟨RX7, "open", "(Z)I"⟩
abbrev cX7_contradicts : ByteArray := prog_9_method_51_code
def yX7_contradicts : MethodName := ⟨RX7, "contradicts", "(Z)I"⟩
abbrev cX7_contradictions : ByteArray := prog_9_method_52_code
def yX7_contradictions : MethodName := ⟨RX7, "contradictions", "(Z)I"⟩
abbrev cX7_readAnew : ByteArray := prog_9_method_53_code
def yX7_readAnew : MethodName := ⟨RX7, "readAnew", "(Z)I"⟩
abbrev cX7_synopsis : ByteArray := prog_9_method_54_code
def yX7_synopsis : MethodName := ⟨RX7, "synopsis", "(I)I"⟩
def RJx29ce0 : String := "java/lang/Enum"
def TJx29ce0 : u_T := fun k => match k with
  | _ => ("", "", "", false)
def tyJx29ce0 : Nat → FieldType := fun k => match k with
  | _ => .int
abbrev wsJx29ce00 : List Cond := u_ws RJx29ce0 TJx29ce0 0
theorem nmJx29ce0 : ∀ a, a < 0 → ∀ b, b < 0 → a ≠ b → (TJx29ce0 a).2.1 ≠ (TJx29ce0 b).2.1 := by decide +kernel
theorem tyJx29ce0_ok : ∀ k, k < 0 → parseFieldDescriptor (TJx29ce0 k).2.2.1 = some (tyJx29ce0 k) := by decide +kernel
def RJ9 : String := "java/lang/Math"
def TJ9 : u_T := fun k => match k with
  | _ => ("", "", "", false)
def tyJ9 : Nat → FieldType := fun k => match k with
  | _ => .int
abbrev wsJ90 : List Cond := u_ws RJ9 TJ9 0
theorem nmJ9 : ∀ a, a < 0 → ∀ b, b < 0 → a ≠ b → (TJ9 a).2.1 ≠ (TJ9 b).2.1 := by decide +kernel
theorem tyJ9_ok : ∀ k, k < 0 → parseFieldDescriptor (TJ9 k).2.2.1 = some (tyJ9 k) := by decide +kernel
abbrev cJ9_max_7cf53 : ByteArray := prog_15_method_65_code
def yJ9_max_7cf53 : MethodName := ⟨RJ9, "max", "(II)I"⟩
def RJ0 : String := "java/lang/String"
def TJ0 : u_T := fun k => match k with
  | _ => ("", "", "", false)
def tyJ0 : Nat → FieldType := fun k => match k with
  | _ => .int
abbrev wsJ00 : List Cond := u_ws RJ0 TJ0 0
theorem nmJ0 : ∀ a, a < 0 → ∀ b, b < 0 → a ≠ b → (TJ0 a).2.1 ≠ (TJ0 b).2.1 := by decide +kernel
theorem tyJ0_ok : ∀ k, k < 0 → parseFieldDescriptor (TJ0 k).2.2.1 = some (tyJ0 k) := by decide +kernel
def RJ10 : String := "java/lang/System"
def TJ10 : u_T := fun k => match k with
  | _ => ("", "", "", false)
def tyJ10 : Nat → FieldType := fun k => match k with
  | _ => .int
abbrev wsJ100 : List Cond := u_ws RJ10 TJ10 0
theorem nmJ10 : ∀ a, a < 0 → ∀ b, b < 0 → a ≠ b → (TJ10 a).2.1 ≠ (TJ10 b).2.1 := by decide +kernel
theorem tyJ10_ok : ∀ k, k < 0 → parseFieldDescriptor (TJ10 k).2.2.1 = some (tyJ10 k) := by decide +kernel
def RL : String := "CircleOfLeavesLaw"
abbrev cL_sign : ByteArray := method_3_code
def yL_sign : MethodName := ⟨RL, "sign", "(LCircleOfLeaves;C[J)I"⟩
abbrev cL_rule : ByteArray := method_4_code
def yL_rule : MethodName := ⟨RL, "rule", "(LCircleOfLeaves;Z[J)I"⟩
abbrev cL_article : ByteArray := method_5_code
def yL_article : MethodName := ⟨RL, "article", "(LCircleOfLeaves;II[J)I"⟩
abbrev cL_under : ByteArray := method_6_code
def yL_under : MethodName := ⟨RL, "under", "(LCircleOfLeaves;II[J)I"⟩
abbrev cL_refer : ByteArray := method_7_code
def yL_refer : MethodName := ⟨RL, "refer", "(LCircleOfLeaves;I[J)I"⟩
abbrev cL_use : ByteArray := method_8_code
def yL_use : MethodName := ⟨RL, "use", "(LCircleOfLeaves;II[J)I"⟩
abbrev cL_change : ByteArray := method_9_code
def yL_change : MethodName := ⟨RL, "change", "(LCircleOfLeaves;II[J)I"⟩
abbrev cL_forbid : ByteArray := method_10_code
def yL_forbid : MethodName := ⟨RL, "forbid", "(LCircleOfLeaves;IZ[J)I"⟩
abbrev cL_volume : ByteArray := method_11_code
def yL_volume : MethodName := ⟨RL, "volume", "(LCircleOfLeaves;CI[J)I"⟩
abbrev cL_contributor : ByteArray := method_12_code
def yL_contributor : MethodName := ⟨RL, "contributor", "(LCircleOfLeaves;I[J)I"⟩
abbrev cL_quarrel : ByteArray := method_13_code
def yL_quarrel : MethodName := ⟨RL, "quarrel", "(LCircleOfLeaves;II[J)I"⟩
abbrev cL_give : ByteArray := method_14_code
def yL_give : MethodName := ⟨RL, "give", "(LCircleOfLeaves;II[J)I"⟩
abbrev cL_die : ByteArray := method_15_code
def yL_die : MethodName := ⟨RL, "die", "(LCircleOfLeaves;I[J)I"⟩
abbrev cL_pass : ByteArray := method_16_code
def yL_pass : MethodName := ⟨RL, "pass", "(LCircleOfLeaves;I[J)I"⟩
abbrev cL_print : ByteArray := method_17_code
def yL_print : MethodName := ⟨RL, "print", "(LCircleOfLeaves;I[J)I"⟩
abbrev cL_supplement : ByteArray := method_18_code
def yL_supplement : MethodName := ⟨RL, "supplement", "(LCircleOfLeaves;[J)I"⟩
abbrev cL_at : ByteArray := method_19_code
def yL_at : MethodName := ⟨RL, "at", "(LCircleOfLeaves;I[J)I"⟩
abbrev cL_about : ByteArray := method_20_code
def yL_about : MethodName := ⟨RL, "about", "(LCircleOfLeaves;II[J)I"⟩
abbrev cL_errata : ByteArray := method_21_code
def yL_errata : MethodName := ⟨RL, "errata", "(LCircleOfLeaves;I[J)I"⟩
abbrev cL_synopsis : ByteArray := method_22_code
def yL_synopsis : MethodName := ⟨RL, "synopsis", "(LCircleOfLeaves;I[J)I"⟩
abbrev cL_law : ByteArray := code
def yL_law : MethodName := ⟨RL, "law", "([I)Z"⟩
def wsJ9_max_7cf53 : List Cond := .code yJ9_max_7cf53 cJ9_max_7cf53 2 (some .int) :: ([])
theorem inJx29ce0 : ∀ w ∈ wsJx29ce00, w ∈ lw_tbl := by decide +kernel
theorem inJ9 : ∀ w ∈ wsJ90, w ∈ lw_tbl := by decide +kernel
theorem inJ0 : ∀ w ∈ wsJ00, w ∈ lw_tbl := by decide +kernel
theorem inJ10 : ∀ w ∈ wsJ100, w ∈ lw_tbl := by decide +kernel
theorem dJ9_max_7cf53_0 : decode cJ9_max_7cf53 0 = .ok (.iload_n 0, 1) := by decide +kernel
theorem dJ9_max_7cf53_1 : decode cJ9_max_7cf53 1 = .ok (.iload_n 1, 1) := by decide +kernel
theorem dJ9_max_7cf53_2 : decode cJ9_max_7cf53 2 = .ok (.if_icmp .lt 7, 3) := by decide +kernel
theorem dJ9_max_7cf53_5 : decode cJ9_max_7cf53 5 = .ok (.iload_n 0, 1) := by decide +kernel
theorem dJ9_max_7cf53_6 : decode cJ9_max_7cf53 6 = .ok (.goto 4, 3) := by decide +kernel
theorem dJ9_max_7cf53_9 : decode cJ9_max_7cf53 9 = .ok (.iload_n 1, 1) := by decide +kernel
theorem dJ9_max_7cf53_10 : decode cJ9_max_7cf53 10 = .ok (.ireturn, 1) := by decide +kernel
abbrev vwCl : List vw_C := [(RX0, TX0, 12), (RX1, TX1, 6), (RX3, TX3, 4), (RX4, TX4, 2), (RX5, TX5, 2), (RX6, TX6, 12), (RX7, TX7, 30)]
end
section
theorem dX0_init_0 : decode cX0_init 0 = .ok (.aload_n 0, 1) := by decide +kernel
theorem dX0_init_1 : decode cX0_init 1 = .ok (.invokespecial 3, 3) := by decide +kernel
theorem dX0_init_4 : decode cX0_init 4 = .ok (.aload_n 0, 1) := by decide +kernel
theorem dX0_init_5 : decode cX0_init 5 = .ok (.new 9, 3) := by decide +kernel
theorem dX0_init_8 : decode cX0_init 8 = .ok (.dup, 1) := by decide +kernel
theorem dX0_init_9 : decode cX0_init 9 = .ok (.invokespecial 11, 3) := by decide +kernel
theorem dX0_init_12 : decode cX0_init 12 = .ok (.putfield 12, 3) := by decide +kernel
theorem dX0_init_15 : decode cX0_init 15 = .ok (.aload_n 0, 1) := by decide +kernel
theorem dX0_init_16 : decode cX0_init 16 = .ok (.iconst 4, 1) := by decide +kernel
theorem dX0_init_17 : decode cX0_init 17 = .ok (.anewarray 18, 3) := by decide +kernel
theorem dX0_init_20 : decode cX0_init 20 = .ok (.putfield 20, 3) := by decide +kernel
theorem dX0_init_23 : decode cX0_init 23 = .ok (.aload_n 0, 1) := by decide +kernel
theorem dX0_init_24 : decode cX0_init 24 = .ok (.bipush 8, 2) := by decide +kernel
theorem dX0_init_26 : decode cX0_init 26 = .ok (.newarray .boolean, 2) := by decide +kernel
theorem dX0_init_28 : decode cX0_init 28 = .ok (.putfield 24, 3) := by decide +kernel
theorem dX0_init_31 : decode cX0_init 31 = .ok (.aload_n 0, 1) := by decide +kernel
theorem dX0_init_32 : decode cX0_init 32 = .ok (.bipush 8, 2) := by decide +kernel
theorem dX0_init_34 : decode cX0_init 34 = .ok (.newarray .int, 2) := by decide +kernel
theorem dX0_init_36 : decode cX0_init 36 = .ok (.putfield 28, 3) := by decide +kernel
theorem dX0_init_39 : decode cX0_init 39 = .ok (.aload_n 0, 1) := by decide +kernel
theorem dX0_init_40 : decode cX0_init 40 = .ok (.iconst (-1), 1) := by decide +kernel
theorem dX0_init_41 : decode cX0_init 41 = .ok (.putfield 32, 3) := by decide +kernel
theorem dX0_init_44 : decode cX0_init 44 = .ok (.aload_n 0, 1) := by decide +kernel
theorem dX0_init_45 : decode cX0_init 45 = .ok (.iconst (-1), 1) := by decide +kernel
theorem dX0_init_46 : decode cX0_init 46 = .ok (.putfield 36, 3) := by decide +kernel
theorem dX0_init_49 : decode cX0_init 49 = .ok (.iconst 0, 1) := by decide +kernel
theorem dX0_init_50 : decode cX0_init 50 = .ok (.istore_n 1, 1) := by decide +kernel
theorem dX0_init_51 : decode cX0_init 51 = .ok (.iload_n 1, 1) := by decide +kernel
theorem dX0_init_52 : decode cX0_init 52 = .ok (.iconst 4, 1) := by decide +kernel
theorem dX0_init_53 : decode cX0_init 53 = .ok (.if_icmp .ge 22, 3) := by decide +kernel
theorem dX0_init_56 : decode cX0_init 56 = .ok (.aload_n 0, 1) := by decide +kernel
theorem dX0_init_57 : decode cX0_init 57 = .ok (.getfield 20, 3) := by decide +kernel
theorem dX0_init_60 : decode cX0_init 60 = .ok (.iload_n 1, 1) := by decide +kernel
theorem dX0_init_61 : decode cX0_init 61 = .ok (.new 18, 3) := by decide +kernel
theorem dX0_init_64 : decode cX0_init 64 = .ok (.dup, 1) := by decide +kernel
theorem dX0_init_65 : decode cX0_init 65 = .ok (.invokespecial 39, 3) := by decide +kernel
theorem dX0_init_68 : decode cX0_init 68 = .ok (.aastore, 1) := by decide +kernel
theorem dX0_init_69 : decode cX0_init 69 = .ok (.iinc 1 1, 3) := by decide +kernel
theorem dX0_init_72 : decode cX0_init 72 = .ok (.goto (-21), 3) := by decide +kernel
theorem dX0_init_75 : decode cX0_init 75 = .ok (.return_, 1) := by decide +kernel
theorem dX0_isBlind_0 : decode cX0_isBlind 0 = .ok (.aload_n 0, 1) := by decide +kernel
theorem dX0_isBlind_1 : decode cX0_isBlind 1 = .ok (.getfield 40, 3) := by decide +kernel
theorem dX0_isBlind_4 : decode cX0_isBlind 4 = .ok (.ifCond .ne 7, 3) := by decide +kernel
theorem dX0_isBlind_7 : decode cX0_isBlind 7 = .ok (.iconst 1, 1) := by decide +kernel
theorem dX0_isBlind_8 : decode cX0_isBlind 8 = .ok (.goto 4, 3) := by decide +kernel
theorem dX0_isBlind_11 : decode cX0_isBlind 11 = .ok (.iconst 0, 1) := by decide +kernel
theorem dX0_isBlind_12 : decode cX0_isBlind 12 = .ok (.ireturn, 1) := by decide +kernel
theorem dX0_isReady_0 : decode cX0_isReady 0 = .ok (.aload_n 0, 1) := by decide +kernel
theorem dX0_isReady_1 : decode cX0_isReady 1 = .ok (.getfield 43, 3) := by decide +kernel
theorem dX0_isReady_4 : decode cX0_isReady 4 = .ok (.ifCond .ne 21, 3) := by decide +kernel
theorem dX0_isReady_7 : decode cX0_isReady 7 = .ok (.aload_n 0, 1) := by decide +kernel
theorem dX0_isReady_8 : decode cX0_isReady 8 = .ok (.invokevirtual 47, 3) := by decide +kernel
theorem dX0_isReady_11 : decode cX0_isReady 11 = .ok (.ifCond .ne 10, 3) := by decide +kernel
theorem dX0_isReady_14 : decode cX0_isReady 14 = .ok (.aload_n 0, 1) := by decide +kernel
theorem dX0_isReady_15 : decode cX0_isReady 15 = .ok (.getfield 51, 3) := by decide +kernel
theorem dX0_isReady_18 : decode cX0_isReady 18 = .ok (.ifCond .eq 7, 3) := by decide +kernel
theorem dX0_isReady_21 : decode cX0_isReady 21 = .ok (.iconst 1, 1) := by decide +kernel
theorem dX0_isReady_22 : decode cX0_isReady 22 = .ok (.goto 4, 3) := by decide +kernel
theorem dX0_isReady_25 : decode cX0_isReady 25 = .ok (.iconst 0, 1) := by decide +kernel
theorem dX0_isReady_26 : decode cX0_isReady 26 = .ok (.ireturn, 1) := by decide +kernel
theorem dX0_isReadIn_0 : decode cX0_isReadIn 0 = .ok (.aload_n 0, 1) := by decide +kernel
theorem dX0_isReadIn_1 : decode cX0_isReadIn 1 = .ok (.getfield 43, 3) := by decide +kernel
theorem dX0_isReadIn_4 : decode cX0_isReadIn 4 = .ok (.ifCond .eq 18, 3) := by decide +kernel
theorem dX0_isReadIn_7 : decode cX0_isReadIn 7 = .ok (.iload_n 1, 1) := by decide +kernel
theorem dX0_isReadIn_8 : decode cX0_isReadIn 8 = .ok (.ifCond .ne 10, 3) := by decide +kernel
theorem dX0_isReadIn_11 : decode cX0_isReadIn 11 = .ok (.aload_n 0, 1) := by decide +kernel
theorem dX0_isReadIn_12 : decode cX0_isReadIn 12 = .ok (.getfield 54, 3) := by decide +kernel
theorem dX0_isReadIn_15 : decode cX0_isReadIn 15 = .ok (.ifCond .ne 7, 3) := by decide +kernel
theorem dX0_isReadIn_18 : decode cX0_isReadIn 18 = .ok (.iconst 1, 1) := by decide +kernel
theorem dX0_isReadIn_19 : decode cX0_isReadIn 19 = .ok (.goto 4, 3) := by decide +kernel
theorem dX0_isReadIn_22 : decode cX0_isReadIn 22 = .ok (.iconst 0, 1) := by decide +kernel
theorem dX0_isReadIn_23 : decode cX0_isReadIn 23 = .ok (.ireturn, 1) := by decide +kernel
theorem dX0_state_0 : decode cX0_state 0 = .ok (.aload_n 0, 1) := by decide +kernel
theorem dX0_state_1 : decode cX0_state 1 = .ok (.getfield 43, 3) := by decide +kernel
theorem dX0_state_4 : decode cX0_state 4 = .ok (.ifCond .eq 5, 3) := by decide +kernel
theorem dX0_state_7 : decode cX0_state 7 = .ok (.iconst 3, 1) := by decide +kernel
theorem dX0_state_8 : decode cX0_state 8 = .ok (.ireturn, 1) := by decide +kernel
theorem dX0_state_9 : decode cX0_state 9 = .ok (.aload_n 0, 1) := by decide +kernel
theorem dX0_state_10 : decode cX0_state 10 = .ok (.getfield 51, 3) := by decide +kernel
theorem dX0_state_13 : decode cX0_state 13 = .ok (.ifCond .eq 5, 3) := by decide +kernel
theorem dX0_state_16 : decode cX0_state 16 = .ok (.iconst 2, 1) := by decide +kernel
theorem dX0_state_17 : decode cX0_state 17 = .ok (.ireturn, 1) := by decide +kernel
theorem dX0_state_18 : decode cX0_state 18 = .ok (.aload_n 0, 1) := by decide +kernel
theorem dX0_state_19 : decode cX0_state 19 = .ok (.getfield 32, 3) := by decide +kernel
theorem dX0_state_22 : decode cX0_state 22 = .ok (.iconst (-1), 1) := by decide +kernel
theorem dX0_state_23 : decode cX0_state 23 = .ok (.if_icmp .ne 7, 3) := by decide +kernel
theorem dX0_state_26 : decode cX0_state 26 = .ok (.iconst 0, 1) := by decide +kernel
theorem dX0_state_27 : decode cX0_state 27 = .ok (.goto 4, 3) := by decide +kernel
theorem dX0_state_30 : decode cX0_state 30 = .ok (.iconst 1, 1) := by decide +kernel
theorem dX0_state_31 : decode cX0_state 31 = .ok (.ireturn, 1) := by decide +kernel
theorem dX0_putToPress_0 : decode cX0_putToPress 0 = .ok (.aload_n 0, 1) := by decide +kernel
theorem dX0_putToPress_1 : decode cX0_putToPress 1 = .ok (.iconst 1, 1) := by decide +kernel
theorem dX0_putToPress_2 : decode cX0_putToPress 2 = .ok (.putfield 43, 3) := by decide +kernel
theorem dX0_putToPress_5 : decode cX0_putToPress 5 = .ok (.aload_n 1, 1) := by decide +kernel
theorem dX0_putToPress_6 : decode cX0_putToPress 6 = .ok (.iconst 0, 1) := by decide +kernel
theorem dX0_putToPress_7 : decode cX0_putToPress 7 = .ok (.aload_n 0, 1) := by decide +kernel
theorem dX0_putToPress_8 : decode cX0_putToPress 8 = .ok (.getfield 28, 3) := by decide +kernel
theorem dX0_putToPress_11 : decode cX0_putToPress 11 = .ok (.iconst 0, 1) := by decide +kernel
theorem dX0_putToPress_12 : decode cX0_putToPress 12 = .ok (.bipush 8, 2) := by decide +kernel
theorem dX0_putToPress_14 : decode cX0_putToPress 14 = .ok (.invokestatic 57, 3) := by decide +kernel
theorem dX0_putToPress_17 : decode cX0_putToPress 17 = .ok (.return_, 1) := by decide +kernel
theorem dX0_countReferences_0 : decode cX0_countReferences 0 = .ok (.iconst 0, 1) := by decide +kernel
theorem dX0_countReferences_1 : decode cX0_countReferences 1 = .ok (.istore_n 2, 1) := by decide +kernel
theorem dX0_countReferences_2 : decode cX0_countReferences 2 = .ok (.iconst 0, 1) := by decide +kernel
theorem dX0_countReferences_3 : decode cX0_countReferences 3 = .ok (.istore_n 3, 1) := by decide +kernel
theorem dX0_countReferences_4 : decode cX0_countReferences 4 = .ok (.iload_n 3, 1) := by decide +kernel
theorem dX0_countReferences_5 : decode cX0_countReferences 5 = .ok (.aload_n 0, 1) := by decide +kernel
theorem dX0_countReferences_6 : decode cX0_countReferences 6 = .ok (.getfield 63, 3) := by decide +kernel
theorem dX0_countReferences_9 : decode cX0_countReferences 9 = .ok (.if_icmp .ge 25, 3) := by decide +kernel
theorem dX0_countReferences_12 : decode cX0_countReferences 12 = .ok (.aload_n 0, 1) := by decide +kernel
theorem dX0_countReferences_13 : decode cX0_countReferences 13 = .ok (.getfield 20, 3) := by decide +kernel
theorem dX0_countReferences_16 : decode cX0_countReferences 16 = .ok (.iload_n 3, 1) := by decide +kernel
theorem dX0_countReferences_17 : decode cX0_countReferences 17 = .ok (.aaload, 1) := by decide +kernel
theorem dX0_countReferences_18 : decode cX0_countReferences 18 = .ok (.getfield 66, 3) := by decide +kernel
theorem dX0_countReferences_21 : decode cX0_countReferences 21 = .ok (.aload_n 1, 1) := by decide +kernel
theorem dX0_countReferences_22 : decode cX0_countReferences 22 = .ok (.if_acmp .ne 6, 3) := by decide +kernel
theorem dX0_countReferences_25 : decode cX0_countReferences 25 = .ok (.iinc 2 1, 3) := by decide +kernel
theorem dX0_countReferences_28 : decode cX0_countReferences 28 = .ok (.iinc 3 1, 3) := by decide +kernel
theorem dX0_countReferences_31 : decode cX0_countReferences 31 = .ok (.goto (-27), 3) := by decide +kernel
theorem dX0_countReferences_34 : decode cX0_countReferences 34 = .ok (.iload_n 2, 1) := by decide +kernel
theorem dX0_countReferences_35 : decode cX0_countReferences 35 = .ok (.ireturn, 1) := by decide +kernel
theorem dX1_init_0 : decode cX1_init 0 = .ok (.aload_n 0, 1) := by decide +kernel
theorem dX1_init_1 : decode cX1_init 1 = .ok (.invokespecial 3, 3) := by decide +kernel
theorem dX1_init_4 : decode cX1_init 4 = .ok (.aload_n 0, 1) := by decide +kernel
theorem dX1_init_5 : decode cX1_init 5 = .ok (.bipush 24, 2) := by decide +kernel
theorem dX1_init_7 : decode cX1_init 7 = .ok (.newarray .int, 2) := by decide +kernel
theorem dX1_init_9 : decode cX1_init 9 = .ok (.putfield 9, 3) := by decide +kernel
theorem dX1_init_12 : decode cX1_init 12 = .ok (.aload_n 0, 1) := by decide +kernel
theorem dX1_init_13 : decode cX1_init 13 = .ok (.bipush 6, 2) := by decide +kernel
theorem dX1_init_15 : decode cX1_init 15 = .ok (.newarray .boolean, 2) := by decide +kernel
theorem dX1_init_17 : decode cX1_init 17 = .ok (.putfield 15, 3) := by decide +kernel
theorem dX1_init_20 : decode cX1_init 20 = .ok (.aload_n 0, 1) := by decide +kernel
theorem dX1_init_21 : decode cX1_init 21 = .ok (.iconst 1, 1) := by decide +kernel
theorem dX1_init_22 : decode cX1_init 22 = .ok (.putfield 19, 3) := by decide +kernel
theorem dX1_init_25 : decode cX1_init 25 = .ok (.return_, 1) := by decide +kernel
theorem dX1_addToWrite_0 : decode cX1_addToWrite 0 = .ok (.aload_n 0, 1) := by decide +kernel
theorem dX1_addToWrite_1 : decode cX1_addToWrite 1 = .ok (.getfield 23, 3) := by decide +kernel
theorem dX1_addToWrite_4 : decode cX1_addToWrite 4 = .ok (.bipush 24, 2) := by decide +kernel
theorem dX1_addToWrite_6 : decode cX1_addToWrite 6 = .ok (.if_icmp .ge 23, 3) := by decide +kernel
theorem dX1_addToWrite_9 : decode cX1_addToWrite 9 = .ok (.aload_n 0, 1) := by decide +kernel
theorem dX1_addToWrite_10 : decode cX1_addToWrite 10 = .ok (.getfield 9, 3) := by decide +kernel
theorem dX1_addToWrite_13 : decode cX1_addToWrite 13 = .ok (.aload_n 0, 1) := by decide +kernel
theorem dX1_addToWrite_14 : decode cX1_addToWrite 14 = .ok (.getfield 23, 3) := by decide +kernel
theorem dX1_addToWrite_17 : decode cX1_addToWrite 17 = .ok (.iload_n 1, 1) := by decide +kernel
theorem dX1_addToWrite_18 : decode cX1_addToWrite 18 = .ok (.iastore, 1) := by decide +kernel
theorem dX1_addToWrite_19 : decode cX1_addToWrite 19 = .ok (.aload_n 0, 1) := by decide +kernel
theorem dX1_addToWrite_20 : decode cX1_addToWrite 20 = .ok (.dup, 1) := by decide +kernel
theorem dX1_addToWrite_21 : decode cX1_addToWrite 21 = .ok (.getfield 23, 3) := by decide +kernel
theorem dX1_addToWrite_24 : decode cX1_addToWrite 24 = .ok (.iconst 1, 1) := by decide +kernel
theorem dX1_addToWrite_25 : decode cX1_addToWrite 25 = .ok (.iadd, 1) := by decide +kernel
theorem dX1_addToWrite_26 : decode cX1_addToWrite 26 = .ok (.putfield 23, 3) := by decide +kernel
theorem dX1_addToWrite_29 : decode cX1_addToWrite 29 = .ok (.return_, 1) := by decide +kernel
theorem dX1_removeFirst_0 : decode cX1_removeFirst 0 = .ok (.aload_n 0, 1) := by decide +kernel
theorem dX1_removeFirst_1 : decode cX1_removeFirst 1 = .ok (.getfield 23, 3) := by decide +kernel
theorem dX1_removeFirst_4 : decode cX1_removeFirst 4 = .ok (.ifCond .le 30, 3) := by decide +kernel
theorem dX1_removeFirst_7 : decode cX1_removeFirst 7 = .ok (.aload_n 0, 1) := by decide +kernel
theorem dX1_removeFirst_8 : decode cX1_removeFirst 8 = .ok (.dup, 1) := by decide +kernel
theorem dX1_removeFirst_9 : decode cX1_removeFirst 9 = .ok (.getfield 23, 3) := by decide +kernel
theorem dX1_removeFirst_12 : decode cX1_removeFirst 12 = .ok (.iconst 1, 1) := by decide +kernel
theorem dX1_removeFirst_13 : decode cX1_removeFirst 13 = .ok (.isub, 1) := by decide +kernel
theorem dX1_removeFirst_14 : decode cX1_removeFirst 14 = .ok (.putfield 23, 3) := by decide +kernel
theorem dX1_removeFirst_17 : decode cX1_removeFirst 17 = .ok (.aload_n 0, 1) := by decide +kernel
theorem dX1_removeFirst_18 : decode cX1_removeFirst 18 = .ok (.getfield 9, 3) := by decide +kernel
theorem dX1_removeFirst_21 : decode cX1_removeFirst 21 = .ok (.iconst 1, 1) := by decide +kernel
theorem dX1_removeFirst_22 : decode cX1_removeFirst 22 = .ok (.aload_n 0, 1) := by decide +kernel
theorem dX1_removeFirst_23 : decode cX1_removeFirst 23 = .ok (.getfield 9, 3) := by decide +kernel
theorem dX1_removeFirst_26 : decode cX1_removeFirst 26 = .ok (.iconst 0, 1) := by decide +kernel
theorem dX1_removeFirst_27 : decode cX1_removeFirst 27 = .ok (.aload_n 0, 1) := by decide +kernel
theorem dX1_removeFirst_28 : decode cX1_removeFirst 28 = .ok (.getfield 23, 3) := by decide +kernel
theorem dX1_removeFirst_31 : decode cX1_removeFirst 31 = .ok (.invokestatic 26, 3) := by decide +kernel
theorem dX1_removeFirst_34 : decode cX1_removeFirst 34 = .ok (.return_, 1) := by decide +kernel
theorem dX1_monthsFor_0 : decode cX1_monthsFor 0 = .ok (.iconst 1, 1) := by decide +kernel
theorem dX1_monthsFor_1 : decode cX1_monthsFor 1 = .ok (.iload_n 1, 1) := by decide +kernel
theorem dX1_monthsFor_2 : decode cX1_monthsFor 2 = .ok (.aload_n 0, 1) := by decide +kernel
theorem dX1_monthsFor_3 : decode cX1_monthsFor 3 = .ok (.getfield 19, 3) := by decide +kernel
theorem dX1_monthsFor_6 : decode cX1_monthsFor 6 = .ok (.iadd, 1) := by decide +kernel
theorem dX1_monthsFor_7 : decode cX1_monthsFor 7 = .ok (.iconst 1, 1) := by decide +kernel
theorem dX1_monthsFor_8 : decode cX1_monthsFor 8 = .ok (.isub, 1) := by decide +kernel
theorem dX1_monthsFor_9 : decode cX1_monthsFor 9 = .ok (.aload_n 0, 1) := by decide +kernel
theorem dX1_monthsFor_10 : decode cX1_monthsFor 10 = .ok (.getfield 19, 3) := by decide +kernel
theorem dX1_monthsFor_13 : decode cX1_monthsFor 13 = .ok (.idiv, 1) := by decide +kernel
theorem dX1_monthsFor_14 : decode cX1_monthsFor 14 = .ok (.invokestatic 32, 3) := by decide +kernel
theorem dX1_monthsFor_17 : decode cX1_monthsFor 17 = .ok (.ireturn, 1) := by decide +kernel
theorem dX3_init_0 : decode cX3_init 0 = .ok (.aload_n 0, 1) := by decide +kernel
theorem dX3_init_1 : decode cX3_init 1 = .ok (.invokespecial 3, 3) := by decide +kernel
theorem dX3_init_4 : decode cX3_init 4 = .ok (.aload_n 0, 1) := by decide +kernel
theorem dX3_init_5 : decode cX3_init 5 = .ok (.bipush 8, 2) := by decide +kernel
theorem dX3_init_7 : decode cX3_init 7 = .ok (.newarray .char, 2) := by decide +kernel
theorem dX3_init_9 : decode cX3_init 9 = .ok (.putfield 9, 3) := by decide +kernel
theorem dX3_init_12 : decode cX3_init 12 = .ok (.aload_n 0, 1) := by decide +kernel
theorem dX3_init_13 : decode cX3_init 13 = .ok (.bipush 8, 2) := by decide +kernel
theorem dX3_init_15 : decode cX3_init 15 = .ok (.newarray .char, 2) := by decide +kernel
theorem dX3_init_17 : decode cX3_init 17 = .ok (.putfield 15, 3) := by decide +kernel
theorem dX3_init_20 : decode cX3_init 20 = .ok (.return_, 1) := by decide +kernel
theorem dX3_add_0 : decode cX3_add 0 = .ok (.aload_n 0, 1) := by decide +kernel
theorem dX3_add_1 : decode cX3_add 1 = .ok (.getfield 18, 3) := by decide +kernel
theorem dX3_add_4 : decode cX3_add 4 = .ok (.bipush 8, 2) := by decide +kernel
theorem dX3_add_6 : decode cX3_add 6 = .ok (.if_icmp .ge 35, 3) := by decide +kernel
theorem dX3_add_9 : decode cX3_add 9 = .ok (.aload_n 0, 1) := by decide +kernel
theorem dX3_add_10 : decode cX3_add 10 = .ok (.getfield 9, 3) := by decide +kernel
theorem dX3_add_13 : decode cX3_add 13 = .ok (.aload_n 0, 1) := by decide +kernel
theorem dX3_add_14 : decode cX3_add 14 = .ok (.getfield 18, 3) := by decide +kernel
theorem dX3_add_17 : decode cX3_add 17 = .ok (.iload_n 1, 1) := by decide +kernel
theorem dX3_add_18 : decode cX3_add 18 = .ok (.invokestatic 22, 3) := by decide +kernel
theorem dX3_add_21 : decode cX3_add 21 = .ok (.ifCond .eq 8, 3) := by decide +kernel
theorem dX3_add_24 : decode cX3_add 24 = .ok (.bipush 32, 2) := by decide +kernel
theorem dX3_add_26 : decode cX3_add 26 = .ok (.goto 4, 3) := by decide +kernel
theorem dX3_add_29 : decode cX3_add 29 = .ok (.iload_n 1, 1) := by decide +kernel
theorem dX3_add_30 : decode cX3_add 30 = .ok (.castore, 1) := by decide +kernel
theorem dX3_add_31 : decode cX3_add 31 = .ok (.aload_n 0, 1) := by decide +kernel
theorem dX3_add_32 : decode cX3_add 32 = .ok (.dup, 1) := by decide +kernel
theorem dX3_add_33 : decode cX3_add 33 = .ok (.getfield 18, 3) := by decide +kernel
theorem dX3_add_36 : decode cX3_add 36 = .ok (.iconst 1, 1) := by decide +kernel
theorem dX3_add_37 : decode cX3_add 37 = .ok (.iadd, 1) := by decide +kernel
theorem dX3_add_38 : decode cX3_add 38 = .ok (.putfield 18, 3) := by decide +kernel
theorem dX3_add_41 : decode cX3_add 41 = .ok (.iload_n 1, 1) := by decide +kernel
theorem dX3_add_42 : decode cX3_add 42 = .ok (.invokestatic 26, 3) := by decide +kernel
theorem dX3_add_45 : decode cX3_add 45 = .ok (.ifCond .eq 32, 3) := by decide +kernel
theorem dX3_add_48 : decode cX3_add 48 = .ok (.aload_n 0, 1) := by decide +kernel
theorem dX3_add_49 : decode cX3_add 49 = .ok (.getfield 29, 3) := by decide +kernel
theorem dX3_add_52 : decode cX3_add 52 = .ok (.bipush 8, 2) := by decide +kernel
theorem dX3_add_54 : decode cX3_add 54 = .ok (.if_icmp .ge 23, 3) := by decide +kernel
theorem dX3_add_57 : decode cX3_add 57 = .ok (.aload_n 0, 1) := by decide +kernel
theorem dX3_add_58 : decode cX3_add 58 = .ok (.getfield 15, 3) := by decide +kernel
theorem dX3_add_61 : decode cX3_add 61 = .ok (.aload_n 0, 1) := by decide +kernel
theorem dX3_add_62 : decode cX3_add 62 = .ok (.getfield 29, 3) := by decide +kernel
theorem dX3_add_65 : decode cX3_add 65 = .ok (.iload_n 1, 1) := by decide +kernel
theorem dX3_add_66 : decode cX3_add 66 = .ok (.castore, 1) := by decide +kernel
theorem dX3_add_67 : decode cX3_add 67 = .ok (.aload_n 0, 1) := by decide +kernel
theorem dX3_add_68 : decode cX3_add 68 = .ok (.dup, 1) := by decide +kernel
theorem dX3_add_69 : decode cX3_add 69 = .ok (.getfield 29, 3) := by decide +kernel
theorem dX3_add_72 : decode cX3_add 72 = .ok (.iconst 1, 1) := by decide +kernel
theorem dX3_add_73 : decode cX3_add 73 = .ok (.iadd, 1) := by decide +kernel
theorem dX3_add_74 : decode cX3_add 74 = .ok (.putfield 29, 3) := by decide +kernel
theorem dX3_add_77 : decode cX3_add 77 = .ok (.return_, 1) := by decide +kernel
theorem dX3_clear_0 : decode cX3_clear 0 = .ok (.aload_n 0, 1) := by decide +kernel
theorem dX3_clear_1 : decode cX3_clear 1 = .ok (.iconst 0, 1) := by decide +kernel
theorem dX3_clear_2 : decode cX3_clear 2 = .ok (.putfield 18, 3) := by decide +kernel
theorem dX3_clear_5 : decode cX3_clear 5 = .ok (.aload_n 0, 1) := by decide +kernel
theorem dX3_clear_6 : decode cX3_clear 6 = .ok (.iconst 0, 1) := by decide +kernel
theorem dX3_clear_7 : decode cX3_clear 7 = .ok (.putfield 29, 3) := by decide +kernel
theorem dX3_clear_10 : decode cX3_clear 10 = .ok (.return_, 1) := by decide +kernel
theorem dX3_take_0 : decode cX3_take 0 = .ok (.aload_n 1, 1) := by decide +kernel
theorem dX3_take_1 : decode cX3_take 1 = .ok (.getfield 9, 3) := by decide +kernel
theorem dX3_take_4 : decode cX3_take 4 = .ok (.iconst 0, 1) := by decide +kernel
theorem dX3_take_5 : decode cX3_take 5 = .ok (.aload_n 0, 1) := by decide +kernel
theorem dX3_take_6 : decode cX3_take 6 = .ok (.getfield 9, 3) := by decide +kernel
theorem dX3_take_9 : decode cX3_take 9 = .ok (.iconst 0, 1) := by decide +kernel
theorem dX3_take_10 : decode cX3_take 10 = .ok (.bipush 8, 2) := by decide +kernel
theorem dX3_take_12 : decode cX3_take 12 = .ok (.invokestatic 32, 3) := by decide +kernel
theorem dX3_take_15 : decode cX3_take 15 = .ok (.aload_n 1, 1) := by decide +kernel
theorem dX3_take_16 : decode cX3_take 16 = .ok (.getfield 15, 3) := by decide +kernel
theorem dX3_take_19 : decode cX3_take 19 = .ok (.iconst 0, 1) := by decide +kernel
theorem dX3_take_20 : decode cX3_take 20 = .ok (.aload_n 0, 1) := by decide +kernel
theorem dX3_take_21 : decode cX3_take 21 = .ok (.getfield 15, 3) := by decide +kernel
theorem dX3_take_24 : decode cX3_take 24 = .ok (.iconst 0, 1) := by decide +kernel
theorem dX3_take_25 : decode cX3_take 25 = .ok (.bipush 8, 2) := by decide +kernel
theorem dX3_take_27 : decode cX3_take 27 = .ok (.invokestatic 32, 3) := by decide +kernel
theorem dX3_take_30 : decode cX3_take 30 = .ok (.aload_n 0, 1) := by decide +kernel
theorem dX3_take_31 : decode cX3_take 31 = .ok (.aload_n 1, 1) := by decide +kernel
theorem dX3_take_32 : decode cX3_take 32 = .ok (.getfield 18, 3) := by decide +kernel
theorem dX3_take_35 : decode cX3_take 35 = .ok (.putfield 18, 3) := by decide +kernel
theorem dX3_take_38 : decode cX3_take 38 = .ok (.aload_n 0, 1) := by decide +kernel
theorem dX3_take_39 : decode cX3_take 39 = .ok (.aload_n 1, 1) := by decide +kernel
theorem dX3_take_40 : decode cX3_take 40 = .ok (.getfield 29, 3) := by decide +kernel
theorem dX3_take_43 : decode cX3_take 43 = .ok (.putfield 29, 3) := by decide +kernel
theorem dX3_take_46 : decode cX3_take 46 = .ok (.aload_n 1, 1) := by decide +kernel
theorem dX3_take_47 : decode cX3_take 47 = .ok (.invokevirtual 38, 3) := by decide +kernel
theorem dX3_take_50 : decode cX3_take 50 = .ok (.return_, 1) := by decide +kernel
theorem dX3_hasLetter_0 : decode cX3_hasLetter 0 = .ok (.aload_n 0, 1) := by decide +kernel
theorem dX3_hasLetter_1 : decode cX3_hasLetter 1 = .ok (.getfield 29, 3) := by decide +kernel
theorem dX3_hasLetter_4 : decode cX3_hasLetter 4 = .ok (.ifCond .le 7, 3) := by decide +kernel
theorem dX3_hasLetter_7 : decode cX3_hasLetter 7 = .ok (.iconst 1, 1) := by decide +kernel
theorem dX3_hasLetter_8 : decode cX3_hasLetter 8 = .ok (.goto 4, 3) := by decide +kernel
theorem dX3_hasLetter_11 : decode cX3_hasLetter 11 = .ok (.iconst 0, 1) := by decide +kernel
theorem dX3_hasLetter_12 : decode cX3_hasLetter 12 = .ok (.ireturn, 1) := by decide +kernel
theorem dX3_firstLetter_0 : decode cX3_firstLetter 0 = .ok (.aload_n 0, 1) := by decide +kernel
theorem dX3_firstLetter_1 : decode cX3_firstLetter 1 = .ok (.getfield 15, 3) := by decide +kernel
theorem dX3_firstLetter_4 : decode cX3_firstLetter 4 = .ok (.iconst 0, 1) := by decide +kernel
theorem dX3_firstLetter_5 : decode cX3_firstLetter 5 = .ok (.caload, 1) := by decide +kernel
theorem dX3_firstLetter_6 : decode cX3_firstLetter 6 = .ok (.ireturn, 1) := by decide +kernel
theorem dX3_compareBy_0 : decode cX3_compareBy 0 = .ok (.iload_n 1, 1) := by decide +kernel
theorem dX3_compareBy_1 : decode cX3_compareBy 1 = .ok (.ifCond .eq 10, 3) := by decide +kernel
theorem dX3_compareBy_4 : decode cX3_compareBy 4 = .ok (.aload_n 0, 1) := by decide +kernel
theorem dX3_compareBy_5 : decode cX3_compareBy 5 = .ok (.getfield 9, 3) := by decide +kernel
theorem dX3_compareBy_8 : decode cX3_compareBy 8 = .ok (.goto 7, 3) := by decide +kernel
theorem dX3_compareBy_11 : decode cX3_compareBy 11 = .ok (.aload_n 0, 1) := by decide +kernel
theorem dX3_compareBy_12 : decode cX3_compareBy 12 = .ok (.getfield 15, 3) := by decide +kernel
theorem dX3_compareBy_15 : decode cX3_compareBy 15 = .ok (.astore_n 3, 1) := by decide +kernel
theorem dX3_compareBy_16 : decode cX3_compareBy 16 = .ok (.iload_n 1, 1) := by decide +kernel
theorem dX3_compareBy_17 : decode cX3_compareBy 17 = .ok (.ifCond .eq 10, 3) := by decide +kernel
theorem dX3_compareBy_20 : decode cX3_compareBy 20 = .ok (.aload_n 2, 1) := by decide +kernel
theorem dX3_compareBy_21 : decode cX3_compareBy 21 = .ok (.getfield 9, 3) := by decide +kernel
theorem dX3_compareBy_24 : decode cX3_compareBy 24 = .ok (.goto 7, 3) := by decide +kernel
theorem dX3_compareBy_27 : decode cX3_compareBy 27 = .ok (.aload_n 2, 1) := by decide +kernel
theorem dX3_compareBy_28 : decode cX3_compareBy 28 = .ok (.getfield 15, 3) := by decide +kernel
theorem dX3_compareBy_31 : decode cX3_compareBy 31 = .ok (.astore 4, 2) := by decide +kernel
theorem dX3_compareBy_33 : decode cX3_compareBy 33 = .ok (.iload_n 1, 1) := by decide +kernel
theorem dX3_compareBy_34 : decode cX3_compareBy 34 = .ok (.ifCond .eq 10, 3) := by decide +kernel
theorem dX3_compareBy_37 : decode cX3_compareBy 37 = .ok (.aload_n 0, 1) := by decide +kernel
theorem dX3_compareBy_38 : decode cX3_compareBy 38 = .ok (.getfield 18, 3) := by decide +kernel
theorem dX3_compareBy_41 : decode cX3_compareBy 41 = .ok (.goto 7, 3) := by decide +kernel
theorem dX3_compareBy_44 : decode cX3_compareBy 44 = .ok (.aload_n 0, 1) := by decide +kernel
theorem dX3_compareBy_45 : decode cX3_compareBy 45 = .ok (.getfield 29, 3) := by decide +kernel
theorem dX3_compareBy_48 : decode cX3_compareBy 48 = .ok (.istore 5, 2) := by decide +kernel
theorem dX3_compareBy_50 : decode cX3_compareBy 50 = .ok (.iload_n 1, 1) := by decide +kernel
theorem dX3_compareBy_51 : decode cX3_compareBy 51 = .ok (.ifCond .eq 10, 3) := by decide +kernel
theorem dX3_compareBy_54 : decode cX3_compareBy 54 = .ok (.aload_n 2, 1) := by decide +kernel
theorem dX3_compareBy_55 : decode cX3_compareBy 55 = .ok (.getfield 18, 3) := by decide +kernel
theorem dX3_compareBy_58 : decode cX3_compareBy 58 = .ok (.goto 7, 3) := by decide +kernel
theorem dX3_compareBy_61 : decode cX3_compareBy 61 = .ok (.aload_n 2, 1) := by decide +kernel
theorem dX3_compareBy_62 : decode cX3_compareBy 62 = .ok (.getfield 29, 3) := by decide +kernel
theorem dX3_compareBy_65 : decode cX3_compareBy 65 = .ok (.istore 6, 2) := by decide +kernel
theorem dX3_compareBy_67 : decode cX3_compareBy 67 = .ok (.iconst 0, 1) := by decide +kernel
theorem dX3_compareBy_68 : decode cX3_compareBy 68 = .ok (.istore 7, 2) := by decide +kernel
theorem dX3_compareBy_70 : decode cX3_compareBy 70 = .ok (.iload 7, 2) := by decide +kernel
theorem dX3_compareBy_72 : decode cX3_compareBy 72 = .ok (.iload 5, 2) := by decide +kernel
theorem dX3_compareBy_74 : decode cX3_compareBy 74 = .ok (.if_icmp .ge 39, 3) := by decide +kernel
theorem dX3_compareBy_77 : decode cX3_compareBy 77 = .ok (.iload 7, 2) := by decide +kernel
theorem dX3_compareBy_79 : decode cX3_compareBy 79 = .ok (.iload 6, 2) := by decide +kernel
theorem dX3_compareBy_81 : decode cX3_compareBy 81 = .ok (.if_icmp .ge 32, 3) := by decide +kernel
theorem dX3_compareBy_84 : decode cX3_compareBy 84 = .ok (.aload_n 3, 1) := by decide +kernel
theorem dX3_compareBy_85 : decode cX3_compareBy 85 = .ok (.iload 7, 2) := by decide +kernel
theorem dX3_compareBy_87 : decode cX3_compareBy 87 = .ok (.caload, 1) := by decide +kernel
theorem dX3_compareBy_88 : decode cX3_compareBy 88 = .ok (.aload 4, 2) := by decide +kernel
theorem dX3_compareBy_90 : decode cX3_compareBy 90 = .ok (.iload 7, 2) := by decide +kernel
theorem dX3_compareBy_92 : decode cX3_compareBy 92 = .ok (.caload, 1) := by decide +kernel
theorem dX3_compareBy_93 : decode cX3_compareBy 93 = .ok (.if_icmp .eq 14, 3) := by decide +kernel
theorem dX3_compareBy_96 : decode cX3_compareBy 96 = .ok (.aload_n 3, 1) := by decide +kernel
theorem dX3_compareBy_97 : decode cX3_compareBy 97 = .ok (.iload 7, 2) := by decide +kernel
theorem dX3_compareBy_99 : decode cX3_compareBy 99 = .ok (.caload, 1) := by decide +kernel
theorem dX3_compareBy_100 : decode cX3_compareBy 100 = .ok (.aload 4, 2) := by decide +kernel
theorem dX3_compareBy_102 : decode cX3_compareBy 102 = .ok (.iload 7, 2) := by decide +kernel
theorem dX3_compareBy_104 : decode cX3_compareBy 104 = .ok (.caload, 1) := by decide +kernel
theorem dX3_compareBy_105 : decode cX3_compareBy 105 = .ok (.isub, 1) := by decide +kernel
theorem dX3_compareBy_106 : decode cX3_compareBy 106 = .ok (.ireturn, 1) := by decide +kernel
theorem dX3_compareBy_107 : decode cX3_compareBy 107 = .ok (.iinc 7 1, 3) := by decide +kernel
theorem dX3_compareBy_110 : decode cX3_compareBy 110 = .ok (.goto (-40), 3) := by decide +kernel
theorem dX3_compareBy_113 : decode cX3_compareBy 113 = .ok (.iload 5, 2) := by decide +kernel
theorem dX3_compareBy_115 : decode cX3_compareBy 115 = .ok (.iload 6, 2) := by decide +kernel
theorem dX3_compareBy_117 : decode cX3_compareBy 117 = .ok (.isub, 1) := by decide +kernel
theorem dX3_compareBy_118 : decode cX3_compareBy 118 = .ok (.ireturn, 1) := by decide +kernel
theorem dX4_init_0 : decode cX4_init 0 = .ok (.aload_n 0, 1) := by decide +kernel
theorem dX4_init_1 : decode cX4_init 1 = .ok (.invokespecial 1, 3) := by decide +kernel
theorem dX4_init_4 : decode cX4_init 4 = .ok (.aload_n 0, 1) := by decide +kernel
theorem dX4_init_5 : decode cX4_init 5 = .ok (.new 7, 3) := by decide +kernel
theorem dX4_init_8 : decode cX4_init 8 = .ok (.dup, 1) := by decide +kernel
theorem dX4_init_9 : decode cX4_init 9 = .ok (.invokespecial 9, 3) := by decide +kernel
theorem dX4_init_12 : decode cX4_init 12 = .ok (.putfield 10, 3) := by decide +kernel
theorem dX4_init_15 : decode cX4_init 15 = .ok (.aload_n 0, 1) := by decide +kernel
theorem dX4_init_16 : decode cX4_init 16 = .ok (.getstatic 16, 3) := by decide +kernel
theorem dX4_init_19 : decode cX4_init 19 = .ok (.putfield 22, 3) := by decide +kernel
theorem dX4_init_22 : decode cX4_init 22 = .ok (.return_, 1) := by decide +kernel
theorem dX5_init_0 : decode cX5_init 0 = .ok (.aload_n 0, 1) := by decide +kernel
theorem dX5_init_1 : decode cX5_init 1 = .ok (.invokespecial 1, 3) := by decide +kernel
theorem dX5_init_4 : decode cX5_init 4 = .ok (.return_, 1) := by decide +kernel
theorem dX6_init_0 : decode cX6_init 0 = .ok (.aload_n 0, 1) := by decide +kernel
theorem dX6_init_1 : decode cX6_init 1 = .ok (.invokespecial 1, 3) := by decide +kernel
theorem dX6_init_4 : decode cX6_init 4 = .ok (.aload_n 0, 1) := by decide +kernel
theorem dX6_init_5 : decode cX6_init 5 = .ok (.new 7, 3) := by decide +kernel
theorem dX6_init_8 : decode cX6_init 8 = .ok (.dup, 1) := by decide +kernel
theorem dX6_init_9 : decode cX6_init 9 = .ok (.invokespecial 9, 3) := by decide +kernel
theorem dX6_init_12 : decode cX6_init 12 = .ok (.putfield 10, 3) := by decide +kernel
theorem dX6_init_15 : decode cX6_init 15 = .ok (.aload_n 0, 1) := by decide +kernel
theorem dX6_init_16 : decode cX6_init 16 = .ok (.bipush 24, 2) := by decide +kernel
theorem dX6_init_18 : decode cX6_init 18 = .ok (.anewarray 16, 3) := by decide +kernel
theorem dX6_init_21 : decode cX6_init 21 = .ok (.putfield 18, 3) := by decide +kernel
theorem dX6_init_24 : decode cX6_init 24 = .ok (.aload_n 0, 1) := by decide +kernel
theorem dX6_init_25 : decode cX6_init 25 = .ok (.iconst 4, 1) := by decide +kernel
theorem dX6_init_26 : decode cX6_init 26 = .ok (.anewarray 22, 3) := by decide +kernel
theorem dX6_init_29 : decode cX6_init 29 = .ok (.putfield 24, 3) := by decide +kernel
theorem dX6_init_32 : decode cX6_init 32 = .ok (.aload_n 0, 1) := by decide +kernel
theorem dX6_init_33 : decode cX6_init 33 = .ok (.bipush 6, 2) := by decide +kernel
theorem dX6_init_35 : decode cX6_init 35 = .ok (.anewarray 28, 3) := by decide +kernel
theorem dX6_init_38 : decode cX6_init 38 = .ok (.putfield 30, 3) := by decide +kernel
theorem dX6_init_41 : decode cX6_init 41 = .ok (.aload_n 0, 1) := by decide +kernel
theorem dX6_init_42 : decode cX6_init 42 = .ok (.bipush 10, 2) := by decide +kernel
theorem dX6_init_44 : decode cX6_init 44 = .ok (.newarray .int, 2) := by decide +kernel
theorem dX6_init_46 : decode cX6_init 46 = .ok (.putfield 34, 3) := by decide +kernel
theorem dX6_init_49 : decode cX6_init 49 = .ok (.aload_n 0, 1) := by decide +kernel
theorem dX6_init_50 : decode cX6_init 50 = .ok (.bipush 8, 2) := by decide +kernel
theorem dX6_init_52 : decode cX6_init 52 = .ok (.newarray .int, 2) := by decide +kernel
theorem dX6_init_54 : decode cX6_init 54 = .ok (.putfield 38, 3) := by decide +kernel
theorem dX6_init_57 : decode cX6_init 57 = .ok (.iconst 0, 1) := by decide +kernel
theorem dX6_init_58 : decode cX6_init 58 = .ok (.istore_n 1, 1) := by decide +kernel
theorem dX6_init_59 : decode cX6_init 59 = .ok (.iload_n 1, 1) := by decide +kernel
theorem dX6_init_60 : decode cX6_init 60 = .ok (.bipush 24, 2) := by decide +kernel
theorem dX6_init_62 : decode cX6_init 62 = .ok (.if_icmp .ge 22, 3) := by decide +kernel
theorem dX6_init_65 : decode cX6_init 65 = .ok (.aload_n 0, 1) := by decide +kernel
theorem dX6_init_66 : decode cX6_init 66 = .ok (.getfield 18, 3) := by decide +kernel
theorem dX6_init_69 : decode cX6_init 69 = .ok (.iload_n 1, 1) := by decide +kernel
theorem dX6_init_70 : decode cX6_init 70 = .ok (.new 16, 3) := by decide +kernel
theorem dX6_init_73 : decode cX6_init 73 = .ok (.dup, 1) := by decide +kernel
theorem dX6_init_74 : decode cX6_init 74 = .ok (.invokespecial 41, 3) := by decide +kernel
theorem dX6_init_77 : decode cX6_init 77 = .ok (.aastore, 1) := by decide +kernel
theorem dX6_init_78 : decode cX6_init 78 = .ok (.iinc 1 1, 3) := by decide +kernel
theorem dX6_init_81 : decode cX6_init 81 = .ok (.goto (-22), 3) := by decide +kernel
theorem dX6_init_84 : decode cX6_init 84 = .ok (.iconst 0, 1) := by decide +kernel
theorem dX6_init_85 : decode cX6_init 85 = .ok (.istore_n 1, 1) := by decide +kernel
theorem dX6_init_86 : decode cX6_init 86 = .ok (.iload_n 1, 1) := by decide +kernel
theorem dX6_init_87 : decode cX6_init 87 = .ok (.iconst 4, 1) := by decide +kernel
theorem dX6_init_88 : decode cX6_init 88 = .ok (.if_icmp .ge 22, 3) := by decide +kernel
theorem dX6_init_91 : decode cX6_init 91 = .ok (.aload_n 0, 1) := by decide +kernel
theorem dX6_init_92 : decode cX6_init 92 = .ok (.getfield 24, 3) := by decide +kernel
theorem dX6_init_95 : decode cX6_init 95 = .ok (.iload_n 1, 1) := by decide +kernel
theorem dX6_init_96 : decode cX6_init 96 = .ok (.new 22, 3) := by decide +kernel
theorem dX6_init_99 : decode cX6_init 99 = .ok (.dup, 1) := by decide +kernel
theorem dX6_init_100 : decode cX6_init 100 = .ok (.invokespecial 42, 3) := by decide +kernel
theorem dX6_init_103 : decode cX6_init 103 = .ok (.aastore, 1) := by decide +kernel
theorem dX6_init_104 : decode cX6_init 104 = .ok (.iinc 1 1, 3) := by decide +kernel
theorem dX6_init_107 : decode cX6_init 107 = .ok (.goto (-21), 3) := by decide +kernel
theorem dX6_init_110 : decode cX6_init 110 = .ok (.iconst 0, 1) := by decide +kernel
theorem dX6_init_111 : decode cX6_init 111 = .ok (.istore_n 1, 1) := by decide +kernel
theorem dX6_init_112 : decode cX6_init 112 = .ok (.iload_n 1, 1) := by decide +kernel
theorem dX6_init_113 : decode cX6_init 113 = .ok (.bipush 6, 2) := by decide +kernel
theorem dX6_init_115 : decode cX6_init 115 = .ok (.if_icmp .ge 22, 3) := by decide +kernel
theorem dX6_init_118 : decode cX6_init 118 = .ok (.aload_n 0, 1) := by decide +kernel
theorem dX6_init_119 : decode cX6_init 119 = .ok (.getfield 30, 3) := by decide +kernel
theorem dX6_init_122 : decode cX6_init 122 = .ok (.iload_n 1, 1) := by decide +kernel
theorem dX6_init_123 : decode cX6_init 123 = .ok (.new 28, 3) := by decide +kernel
theorem dX6_init_126 : decode cX6_init 126 = .ok (.dup, 1) := by decide +kernel
theorem dX6_init_127 : decode cX6_init 127 = .ok (.invokespecial 43, 3) := by decide +kernel
theorem dX6_init_130 : decode cX6_init 130 = .ok (.aastore, 1) := by decide +kernel
theorem dX6_init_131 : decode cX6_init 131 = .ok (.iinc 1 1, 3) := by decide +kernel
theorem dX6_init_134 : decode cX6_init 134 = .ok (.goto (-22), 3) := by decide +kernel
theorem dX6_init_137 : decode cX6_init 137 = .ok (.iconst 0, 1) := by decide +kernel
theorem dX6_init_138 : decode cX6_init 138 = .ok (.istore_n 1, 1) := by decide +kernel
theorem dX6_init_139 : decode cX6_init 139 = .ok (.iload_n 1, 1) := by decide +kernel
theorem dX6_init_140 : decode cX6_init 140 = .ok (.bipush 10, 2) := by decide +kernel
theorem dX6_init_142 : decode cX6_init 142 = .ok (.if_icmp .ge 16, 3) := by decide +kernel
theorem dX6_init_145 : decode cX6_init 145 = .ok (.aload_n 0, 1) := by decide +kernel
theorem dX6_init_146 : decode cX6_init 146 = .ok (.getfield 34, 3) := by decide +kernel
theorem dX6_init_149 : decode cX6_init 149 = .ok (.iload_n 1, 1) := by decide +kernel
theorem dX6_init_150 : decode cX6_init 150 = .ok (.iconst (-1), 1) := by decide +kernel
theorem dX6_init_151 : decode cX6_init 151 = .ok (.iastore, 1) := by decide +kernel
theorem dX6_init_152 : decode cX6_init 152 = .ok (.iinc 1 1, 3) := by decide +kernel
theorem dX6_init_155 : decode cX6_init 155 = .ok (.goto (-16), 3) := by decide +kernel
theorem dX6_init_158 : decode cX6_init 158 = .ok (.return_, 1) := by decide +kernel
theorem dX6_sign_0 : decode cX6_sign 0 = .ok (.iload_n 1, 1) := by decide +kernel
theorem dX6_sign_1 : decode cX6_sign 1 = .ok (.invokestatic 44, 3) := by decide +kernel
theorem dX6_sign_4 : decode cX6_sign 4 = .ok (.ifCond .ne 20, 3) := by decide +kernel
theorem dX6_sign_7 : decode cX6_sign 7 = .ok (.iload_n 1, 1) := by decide +kernel
theorem dX6_sign_8 : decode cX6_sign 8 = .ok (.invokestatic 48, 3) := by decide +kernel
theorem dX6_sign_11 : decode cX6_sign 11 = .ok (.ifCond .ne 13, 3) := by decide +kernel
theorem dX6_sign_14 : decode cX6_sign 14 = .ok (.new 51, 3) := by decide +kernel
theorem dX6_sign_17 : decode cX6_sign 17 = .ok (.dup, 1) := by decide +kernel
theorem dX6_sign_18 : decode cX6_sign 18 = .ok (.ldc 53, 2) := by decide +kernel
theorem dX6_sign_20 : decode cX6_sign 20 = .ok (.invokespecial 55, 3) := by decide +kernel
theorem dX6_sign_23 : decode cX6_sign 23 = .ok (.athrow, 1) := by decide +kernel
theorem dX6_sign_24 : decode cX6_sign 24 = .ok (.aload_n 0, 1) := by decide +kernel
theorem dX6_sign_25 : decode cX6_sign 25 = .ok (.getfield 10, 3) := by decide +kernel
theorem dX6_sign_28 : decode cX6_sign 28 = .ok (.getfield 58, 3) := by decide +kernel
theorem dX6_sign_31 : decode cX6_sign 31 = .ok (.bipush 8, 2) := by decide +kernel
theorem dX6_sign_33 : decode cX6_sign 33 = .ok (.if_icmp .lt 13, 3) := by decide +kernel
theorem dX6_sign_36 : decode cX6_sign 36 = .ok (.new 62, 3) := by decide +kernel
theorem dX6_sign_39 : decode cX6_sign 39 = .ok (.dup, 1) := by decide +kernel
theorem dX6_sign_40 : decode cX6_sign 40 = .ok (.ldc 64, 2) := by decide +kernel
theorem dX6_sign_42 : decode cX6_sign 42 = .ok (.invokespecial 66, 3) := by decide +kernel
theorem dX6_sign_45 : decode cX6_sign 45 = .ok (.athrow, 1) := by decide +kernel
theorem dX6_sign_46 : decode cX6_sign 46 = .ok (.aload_n 0, 1) := by decide +kernel
theorem dX6_sign_47 : decode cX6_sign 47 = .ok (.getfield 10, 3) := by decide +kernel
theorem dX6_sign_50 : decode cX6_sign 50 = .ok (.iload_n 1, 1) := by decide +kernel
theorem dX6_sign_51 : decode cX6_sign 51 = .ok (.invokevirtual 67, 3) := by decide +kernel
theorem dX6_sign_54 : decode cX6_sign 54 = .ok (.aload_n 0, 1) := by decide +kernel
theorem dX6_sign_55 : decode cX6_sign 55 = .ok (.getfield 10, 3) := by decide +kernel
theorem dX6_sign_58 : decode cX6_sign 58 = .ok (.getfield 58, 3) := by decide +kernel
theorem dX6_sign_61 : decode cX6_sign 61 = .ok (.ireturn, 1) := by decide +kernel
theorem dX6_erase_0 : decode cX6_erase 0 = .ok (.aload_n 0, 1) := by decide +kernel
theorem dX6_erase_1 : decode cX6_erase 1 = .ok (.getfield 10, 3) := by decide +kernel
theorem dX6_erase_4 : decode cX6_erase 4 = .ok (.getfield 58, 3) := by decide +kernel
theorem dX6_erase_7 : decode cX6_erase 7 = .ok (.istore_n 1, 1) := by decide +kernel
theorem dX6_erase_8 : decode cX6_erase 8 = .ok (.aload_n 0, 1) := by decide +kernel
theorem dX6_erase_9 : decode cX6_erase 9 = .ok (.getfield 10, 3) := by decide +kernel
theorem dX6_erase_12 : decode cX6_erase 12 = .ok (.invokevirtual 71, 3) := by decide +kernel
theorem dX6_erase_15 : decode cX6_erase 15 = .ok (.iload_n 1, 1) := by decide +kernel
theorem dX6_erase_16 : decode cX6_erase 16 = .ok (.ireturn, 1) := by decide +kernel
theorem dX6_rule_0 : decode cX6_rule 0 = .ok (.aload_n 0, 1) := by decide +kernel
theorem dX6_rule_1 : decode cX6_rule 1 = .ok (.getfield 74, 3) := by decide +kernel
theorem dX6_rule_4 : decode cX6_rule 4 = .ok (.ifCond .le 13, 3) := by decide +kernel
theorem dX6_rule_7 : decode cX6_rule 7 = .ok (.new 62, 3) := by decide +kernel
theorem dX6_rule_10 : decode cX6_rule 10 = .ok (.dup, 1) := by decide +kernel
theorem dX6_rule_11 : decode cX6_rule 11 = .ok (.ldc 77, 2) := by decide +kernel
theorem dX6_rule_13 : decode cX6_rule 13 = .ok (.invokespecial 66, 3) := by decide +kernel
theorem dX6_rule_16 : decode cX6_rule 16 = .ok (.athrow, 1) := by decide +kernel
theorem dX6_rule_17 : decode cX6_rule 17 = .ok (.aload_n 0, 1) := by decide +kernel
theorem dX6_rule_18 : decode cX6_rule 18 = .ok (.getfield 79, 3) := by decide +kernel
theorem dX6_rule_21 : decode cX6_rule 21 = .ok (.istore_n 2, 1) := by decide +kernel
theorem dX6_rule_22 : decode cX6_rule 22 = .ok (.aload_n 0, 1) := by decide +kernel
theorem dX6_rule_23 : decode cX6_rule 23 = .ok (.iload_n 1, 1) := by decide +kernel
theorem dX6_rule_24 : decode cX6_rule 24 = .ok (.putfield 79, 3) := by decide +kernel
theorem dX6_rule_27 : decode cX6_rule 27 = .ok (.iload_n 2, 1) := by decide +kernel
theorem dX6_rule_28 : decode cX6_rule 28 = .ok (.ireturn, 1) := by decide +kernel
theorem dX6_article_0 : decode cX6_article 0 = .ok (.iload_n 1, 1) := by decide +kernel
theorem dX6_article_1 : decode cX6_article 1 = .ok (.invokestatic 83, 3) := by decide +kernel
theorem dX6_article_4 : decode cX6_article 4 = .ok (.iload_n 2, 1) := by decide +kernel
theorem dX6_article_5 : decode cX6_article 5 = .ok (.ifCond .lt 9, 3) := by decide +kernel
theorem dX6_article_8 : decode cX6_article 8 = .ok (.iload_n 2, 1) := by decide +kernel
theorem dX6_article_9 : decode cX6_article 9 = .ok (.bipush 9, 2) := by decide +kernel
theorem dX6_article_11 : decode cX6_article 11 = .ok (.if_icmp .le 13, 3) := by decide +kernel
theorem dX6_article_14 : decode cX6_article 14 = .ok (.new 51, 3) := by decide +kernel
theorem dX6_article_17 : decode cX6_article 17 = .ok (.dup, 1) := by decide +kernel
theorem dX6_article_18 : decode cX6_article 18 = .ok (.ldc 87, 2) := by decide +kernel
theorem dX6_article_20 : decode cX6_article 20 = .ok (.invokespecial 55, 3) := by decide +kernel
theorem dX6_article_23 : decode cX6_article 23 = .ok (.athrow, 1) := by decide +kernel
theorem dX6_article_24 : decode cX6_article 24 = .ok (.aload_n 0, 1) := by decide +kernel
theorem dX6_article_25 : decode cX6_article 25 = .ok (.getfield 89, 3) := by decide +kernel
theorem dX6_article_28 : decode cX6_article 28 = .ok (.bipush 24, 2) := by decide +kernel
theorem dX6_article_30 : decode cX6_article 30 = .ok (.if_icmp .ge 13, 3) := by decide +kernel
theorem dX6_article_33 : decode cX6_article 33 = .ok (.aload_n 0, 1) := by decide +kernel
theorem dX6_article_34 : decode cX6_article 34 = .ok (.getfield 10, 3) := by decide +kernel
theorem dX6_article_37 : decode cX6_article 37 = .ok (.invokevirtual 92, 3) := by decide +kernel
theorem dX6_article_40 : decode cX6_article 40 = .ok (.ifCond .ne 13, 3) := by decide +kernel
theorem dX6_article_43 : decode cX6_article 43 = .ok (.new 62, 3) := by decide +kernel
theorem dX6_article_46 : decode cX6_article 46 = .ok (.dup, 1) := by decide +kernel
theorem dX6_article_47 : decode cX6_article 47 = .ok (.ldc 96, 2) := by decide +kernel
theorem dX6_article_49 : decode cX6_article 49 = .ok (.invokespecial 66, 3) := by decide +kernel
theorem dX6_article_52 : decode cX6_article 52 = .ok (.athrow, 1) := by decide +kernel
theorem dX6_article_53 : decode cX6_article 53 = .ok (.aload_n 0, 1) := by decide +kernel
theorem dX6_article_54 : decode cX6_article 54 = .ok (.getfield 18, 3) := by decide +kernel
theorem dX6_article_57 : decode cX6_article 57 = .ok (.aload_n 0, 1) := by decide +kernel
theorem dX6_article_58 : decode cX6_article 58 = .ok (.getfield 89, 3) := by decide +kernel
theorem dX6_article_61 : decode cX6_article 61 = .ok (.aaload, 1) := by decide +kernel
theorem dX6_article_62 : decode cX6_article 62 = .ok (.astore_n 3, 1) := by decide +kernel
theorem dX6_article_63 : decode cX6_article 63 = .ok (.aload_n 3, 1) := by decide +kernel
theorem dX6_article_64 : decode cX6_article 64 = .ok (.iload_n 1, 1) := by decide +kernel
theorem dX6_article_65 : decode cX6_article 65 = .ok (.putfield 98, 3) := by decide +kernel
theorem dX6_article_68 : decode cX6_article 68 = .ok (.aload_n 3, 1) := by decide +kernel
theorem dX6_article_69 : decode cX6_article 69 = .ok (.iload_n 2, 1) := by decide +kernel
theorem dX6_article_70 : decode cX6_article 70 = .ok (.putfield 101, 3) := by decide +kernel
theorem dX6_article_73 : decode cX6_article 73 = .ok (.aload_n 3, 1) := by decide +kernel
theorem dX6_article_74 : decode cX6_article 74 = .ok (.getfield 104, 3) := by decide +kernel
theorem dX6_article_77 : decode cX6_article 77 = .ok (.aload_n 0, 1) := by decide +kernel
theorem dX6_article_78 : decode cX6_article 78 = .ok (.getfield 10, 3) := by decide +kernel
theorem dX6_article_81 : decode cX6_article 81 = .ok (.invokevirtual 107, 3) := by decide +kernel
theorem dX6_article_84 : decode cX6_article 84 = .ok (.aload_n 0, 1) := by decide +kernel
theorem dX6_article_85 : decode cX6_article 85 = .ok (.dup, 1) := by decide +kernel
theorem dX6_article_86 : decode cX6_article 86 = .ok (.getfield 89, 3) := by decide +kernel
theorem dX6_article_89 : decode cX6_article 89 = .ok (.dup_x1, 1) := by decide +kernel
theorem dX6_article_90 : decode cX6_article 90 = .ok (.iconst 1, 1) := by decide +kernel
theorem dX6_article_91 : decode cX6_article 91 = .ok (.iadd, 1) := by decide +kernel
theorem dX6_article_92 : decode cX6_article 92 = .ok (.putfield 89, 3) := by decide +kernel
theorem dX6_article_95 : decode cX6_article 95 = .ok (.ireturn, 1) := by decide +kernel
theorem dX6_under_0 : decode cX6_under 0 = .ok (.iload_n 1, 1) := by decide +kernel
theorem dX6_under_1 : decode cX6_under 1 = .ok (.invokestatic 83, 3) := by decide +kernel
theorem dX6_under_4 : decode cX6_under 4 = .ok (.iload_n 2, 1) := by decide +kernel
theorem dX6_under_5 : decode cX6_under 5 = .ok (.iconst (-1), 1) := by decide +kernel
theorem dX6_under_6 : decode cX6_under 6 = .ok (.if_icmp .eq 7, 3) := by decide +kernel
theorem dX6_under_9 : decode cX6_under 9 = .ok (.iload_n 2, 1) := by decide +kernel
theorem dX6_under_10 : decode cX6_under 10 = .ok (.invokestatic 83, 3) := by decide +kernel
theorem dX6_under_13 : decode cX6_under 13 = .ok (.iload_n 2, 1) := by decide +kernel
theorem dX6_under_14 : decode cX6_under 14 = .ok (.iload_n 1, 1) := by decide +kernel
theorem dX6_under_15 : decode cX6_under 15 = .ok (.if_icmp .lt 13, 3) := by decide +kernel
theorem dX6_under_18 : decode cX6_under 18 = .ok (.new 51, 3) := by decide +kernel
theorem dX6_under_21 : decode cX6_under 21 = .ok (.dup, 1) := by decide +kernel
theorem dX6_under_22 : decode cX6_under 22 = .ok (.ldc 111, 2) := by decide +kernel
theorem dX6_under_24 : decode cX6_under 24 = .ok (.invokespecial 55, 3) := by decide +kernel
theorem dX6_under_27 : decode cX6_under 27 = .ok (.athrow, 1) := by decide +kernel
theorem dX6_under_28 : decode cX6_under 28 = .ok (.aload_n 0, 1) := by decide +kernel
theorem dX6_under_29 : decode cX6_under 29 = .ok (.getfield 34, 3) := by decide +kernel
theorem dX6_under_32 : decode cX6_under 32 = .ok (.iload_n 1, 1) := by decide +kernel
theorem dX6_under_33 : decode cX6_under 33 = .ok (.iaload, 1) := by decide +kernel
theorem dX6_under_34 : decode cX6_under 34 = .ok (.istore_n 3, 1) := by decide +kernel
theorem dX6_under_35 : decode cX6_under 35 = .ok (.aload_n 0, 1) := by decide +kernel
theorem dX6_under_36 : decode cX6_under 36 = .ok (.getfield 34, 3) := by decide +kernel
theorem dX6_under_39 : decode cX6_under 39 = .ok (.iload_n 1, 1) := by decide +kernel
theorem dX6_under_40 : decode cX6_under 40 = .ok (.iload_n 2, 1) := by decide +kernel
theorem dX6_under_41 : decode cX6_under 41 = .ok (.iastore, 1) := by decide +kernel
theorem dX6_under_42 : decode cX6_under 42 = .ok (.iload_n 3, 1) := by decide +kernel
theorem dX6_under_43 : decode cX6_under 43 = .ok (.ireturn, 1) := by decide +kernel
theorem dX6_refer_0 : decode cX6_refer 0 = .ok (.aload_n 0, 1) := by decide +kernel
theorem dX6_refer_1 : decode cX6_refer 1 = .ok (.iload_n 1, 1) := by decide +kernel
theorem dX6_refer_2 : decode cX6_refer 2 = .ok (.invokevirtual 113, 3) := by decide +kernel
theorem dX6_refer_5 : decode cX6_refer 5 = .ok (.aload_n 0, 1) := by decide +kernel
theorem dX6_refer_6 : decode cX6_refer 6 = .ok (.getfield 18, 3) := by decide +kernel
theorem dX6_refer_9 : decode cX6_refer 9 = .ok (.iload_n 1, 1) := by decide +kernel
theorem dX6_refer_10 : decode cX6_refer 10 = .ok (.aaload, 1) := by decide +kernel
theorem dX6_refer_11 : decode cX6_refer 11 = .ok (.astore_n 2, 1) := by decide +kernel
theorem dX6_refer_12 : decode cX6_refer 12 = .ok (.aload_n 2, 1) := by decide +kernel
theorem dX6_refer_13 : decode cX6_refer 13 = .ok (.getfield 116, 3) := by decide +kernel
theorem dX6_refer_16 : decode cX6_refer 16 = .ok (.ifCond .ne 21, 3) := by decide +kernel
theorem dX6_refer_19 : decode cX6_refer 19 = .ok (.aload_n 2, 1) := by decide +kernel
theorem dX6_refer_20 : decode cX6_refer 20 = .ok (.getfield 119, 3) := by decide +kernel
theorem dX6_refer_23 : decode cX6_refer 23 = .ok (.iconst 4, 1) := by decide +kernel
theorem dX6_refer_24 : decode cX6_refer 24 = .ok (.if_icmp .ge 13, 3) := by decide +kernel
theorem dX6_refer_27 : decode cX6_refer 27 = .ok (.aload_n 0, 1) := by decide +kernel
theorem dX6_refer_28 : decode cX6_refer 28 = .ok (.getfield 10, 3) := by decide +kernel
theorem dX6_refer_31 : decode cX6_refer 31 = .ok (.invokevirtual 92, 3) := by decide +kernel
theorem dX6_refer_34 : decode cX6_refer 34 = .ok (.ifCond .ne 13, 3) := by decide +kernel
theorem dX6_refer_37 : decode cX6_refer 37 = .ok (.new 62, 3) := by decide +kernel
theorem dX6_refer_40 : decode cX6_refer 40 = .ok (.dup, 1) := by decide +kernel
theorem dX6_refer_41 : decode cX6_refer 41 = .ok (.ldc 122, 2) := by decide +kernel
theorem dX6_refer_43 : decode cX6_refer 43 = .ok (.invokespecial 66, 3) := by decide +kernel
theorem dX6_refer_46 : decode cX6_refer 46 = .ok (.athrow, 1) := by decide +kernel
theorem dX6_refer_47 : decode cX6_refer 47 = .ok (.aload_n 2, 1) := by decide +kernel
theorem dX6_refer_48 : decode cX6_refer 48 = .ok (.getfield 124, 3) := by decide +kernel
theorem dX6_refer_51 : decode cX6_refer 51 = .ok (.aload_n 2, 1) := by decide +kernel
theorem dX6_refer_52 : decode cX6_refer 52 = .ok (.getfield 119, 3) := by decide +kernel
theorem dX6_refer_55 : decode cX6_refer 55 = .ok (.aaload, 1) := by decide +kernel
theorem dX6_refer_56 : decode cX6_refer 56 = .ok (.getfield 128, 3) := by decide +kernel
theorem dX6_refer_59 : decode cX6_refer 59 = .ok (.aload_n 0, 1) := by decide +kernel
theorem dX6_refer_60 : decode cX6_refer 60 = .ok (.getfield 10, 3) := by decide +kernel
theorem dX6_refer_63 : decode cX6_refer 63 = .ok (.invokevirtual 107, 3) := by decide +kernel
theorem dX6_refer_66 : decode cX6_refer 66 = .ok (.aload_n 2, 1) := by decide +kernel
theorem dX6_refer_67 : decode cX6_refer 67 = .ok (.dup, 1) := by decide +kernel
theorem dX6_refer_68 : decode cX6_refer 68 = .ok (.getfield 119, 3) := by decide +kernel
theorem dX6_refer_71 : decode cX6_refer 71 = .ok (.iconst 1, 1) := by decide +kernel
theorem dX6_refer_72 : decode cX6_refer 72 = .ok (.iadd, 1) := by decide +kernel
theorem dX6_refer_73 : decode cX6_refer 73 = .ok (.putfield 119, 3) := by decide +kernel
theorem dX6_refer_76 : decode cX6_refer 76 = .ok (.aload_n 2, 1) := by decide +kernel
theorem dX6_refer_77 : decode cX6_refer 77 = .ok (.getfield 119, 3) := by decide +kernel
theorem dX6_refer_80 : decode cX6_refer 80 = .ok (.ireturn, 1) := by decide +kernel
theorem dX6_use_0 : decode cX6_use 0 = .ok (.aload_n 0, 1) := by decide +kernel
theorem dX6_use_1 : decode cX6_use 1 = .ok (.iload_n 1, 1) := by decide +kernel
theorem dX6_use_2 : decode cX6_use 2 = .ok (.invokevirtual 113, 3) := by decide +kernel
theorem dX6_use_5 : decode cX6_use 5 = .ok (.iload_n 2, 1) := by decide +kernel
theorem dX6_use_6 : decode cX6_use 6 = .ok (.invokestatic 131, 3) := by decide +kernel
theorem dX6_use_9 : decode cX6_use 9 = .ok (.aload_n 0, 1) := by decide +kernel
theorem dX6_use_10 : decode cX6_use 10 = .ok (.getfield 18, 3) := by decide +kernel
theorem dX6_use_13 : decode cX6_use 13 = .ok (.iload_n 1, 1) := by decide +kernel
theorem dX6_use_14 : decode cX6_use 14 = .ok (.aaload, 1) := by decide +kernel
theorem dX6_use_15 : decode cX6_use 15 = .ok (.astore_n 3, 1) := by decide +kernel
theorem dX6_use_16 : decode cX6_use 16 = .ok (.aload_n 3, 1) := by decide +kernel
theorem dX6_use_17 : decode cX6_use 17 = .ok (.getfield 116, 3) := by decide +kernel
theorem dX6_use_20 : decode cX6_use 20 = .ok (.ifCond .ne 10, 3) := by decide +kernel
theorem dX6_use_23 : decode cX6_use 23 = .ok (.aload_n 3, 1) := by decide +kernel
theorem dX6_use_24 : decode cX6_use 24 = .ok (.invokevirtual 134, 3) := by decide +kernel
theorem dX6_use_27 : decode cX6_use 27 = .ok (.ifCond .eq 13, 3) := by decide +kernel
theorem dX6_use_30 : decode cX6_use 30 = .ok (.new 62, 3) := by decide +kernel
theorem dX6_use_33 : decode cX6_use 33 = .ok (.dup, 1) := by decide +kernel
theorem dX6_use_34 : decode cX6_use 34 = .ok (.ldc 137, 2) := by decide +kernel
theorem dX6_use_36 : decode cX6_use 36 = .ok (.invokespecial 66, 3) := by decide +kernel
theorem dX6_use_39 : decode cX6_use 39 = .ok (.athrow, 1) := by decide +kernel
theorem dX6_use_40 : decode cX6_use 40 = .ok (.aload_n 3, 1) := by decide +kernel
theorem dX6_use_41 : decode cX6_use 41 = .ok (.getfield 139, 3) := by decide +kernel
theorem dX6_use_44 : decode cX6_use 44 = .ok (.iload_n 2, 1) := by decide +kernel
theorem dX6_use_45 : decode cX6_use 45 = .ok (.baload, 1) := by decide +kernel
theorem dX6_use_46 : decode cX6_use 46 = .ok (.ifCond .ne 7, 3) := by decide +kernel
theorem dX6_use_49 : decode cX6_use 49 = .ok (.iconst 1, 1) := by decide +kernel
theorem dX6_use_50 : decode cX6_use 50 = .ok (.goto 4, 3) := by decide +kernel
theorem dX6_use_53 : decode cX6_use 53 = .ok (.iconst 0, 1) := by decide +kernel
theorem dX6_use_54 : decode cX6_use 54 = .ok (.istore 4, 2) := by decide +kernel
theorem dX6_use_56 : decode cX6_use 56 = .ok (.aload_n 3, 1) := by decide +kernel
theorem dX6_use_57 : decode cX6_use 57 = .ok (.getfield 139, 3) := by decide +kernel
theorem dX6_use_60 : decode cX6_use 60 = .ok (.iload_n 2, 1) := by decide +kernel
theorem dX6_use_61 : decode cX6_use 61 = .ok (.iconst 1, 1) := by decide +kernel
theorem dX6_use_62 : decode cX6_use 62 = .ok (.bastore, 1) := by decide +kernel
theorem dX6_use_63 : decode cX6_use 63 = .ok (.iload 4, 2) := by decide +kernel
theorem dX6_use_65 : decode cX6_use 65 = .ok (.ireturn, 1) := by decide +kernel
theorem dX6_change_0 : decode cX6_change 0 = .ok (.iload_n 1, 1) := by decide +kernel
theorem dX6_change_1 : decode cX6_change 1 = .ok (.invokestatic 131, 3) := by decide +kernel
theorem dX6_change_4 : decode cX6_change 4 = .ok (.aload_n 0, 1) := by decide +kernel
theorem dX6_change_5 : decode cX6_change 5 = .ok (.getfield 38, 3) := by decide +kernel
theorem dX6_change_8 : decode cX6_change 8 = .ok (.iload_n 1, 1) := by decide +kernel
theorem dX6_change_9 : decode cX6_change 9 = .ok (.iaload, 1) := by decide +kernel
theorem dX6_change_10 : decode cX6_change 10 = .ok (.istore_n 3, 1) := by decide +kernel
theorem dX6_change_11 : decode cX6_change 11 = .ok (.aload_n 0, 1) := by decide +kernel
theorem dX6_change_12 : decode cX6_change 12 = .ok (.getfield 38, 3) := by decide +kernel
theorem dX6_change_15 : decode cX6_change 15 = .ok (.iload_n 1, 1) := by decide +kernel
theorem dX6_change_16 : decode cX6_change 16 = .ok (.iload_n 2, 1) := by decide +kernel
theorem dX6_change_17 : decode cX6_change 17 = .ok (.iastore, 1) := by decide +kernel
theorem dX6_change_18 : decode cX6_change 18 = .ok (.iload_n 3, 1) := by decide +kernel
theorem dX6_change_19 : decode cX6_change 19 = .ok (.ireturn, 1) := by decide +kernel
theorem dX6_forbid_0 : decode cX6_forbid 0 = .ok (.aload_n 0, 1) := by decide +kernel
theorem dX6_forbid_1 : decode cX6_forbid 1 = .ok (.iload_n 1, 1) := by decide +kernel
theorem dX6_forbid_2 : decode cX6_forbid 2 = .ok (.invokevirtual 113, 3) := by decide +kernel
theorem dX6_forbid_5 : decode cX6_forbid 5 = .ok (.aload_n 0, 1) := by decide +kernel
theorem dX6_forbid_6 : decode cX6_forbid 6 = .ok (.getfield 18, 3) := by decide +kernel
theorem dX6_forbid_9 : decode cX6_forbid 9 = .ok (.iload_n 1, 1) := by decide +kernel
theorem dX6_forbid_10 : decode cX6_forbid 10 = .ok (.aaload, 1) := by decide +kernel
theorem dX6_forbid_11 : decode cX6_forbid 11 = .ok (.getfield 116, 3) := by decide +kernel
theorem dX6_forbid_14 : decode cX6_forbid 14 = .ok (.ifCond .eq 13, 3) := by decide +kernel
theorem dX6_forbid_17 : decode cX6_forbid 17 = .ok (.new 62, 3) := by decide +kernel
theorem dX6_forbid_20 : decode cX6_forbid 20 = .ok (.dup, 1) := by decide +kernel
theorem dX6_forbid_21 : decode cX6_forbid 21 = .ok (.ldc 143, 2) := by decide +kernel
theorem dX6_forbid_23 : decode cX6_forbid 23 = .ok (.invokespecial 66, 3) := by decide +kernel
theorem dX6_forbid_26 : decode cX6_forbid 26 = .ok (.athrow, 1) := by decide +kernel
theorem dX6_forbid_27 : decode cX6_forbid 27 = .ok (.aload_n 0, 1) := by decide +kernel
theorem dX6_forbid_28 : decode cX6_forbid 28 = .ok (.getfield 18, 3) := by decide +kernel
theorem dX6_forbid_31 : decode cX6_forbid 31 = .ok (.iload_n 1, 1) := by decide +kernel
theorem dX6_forbid_32 : decode cX6_forbid 32 = .ok (.aaload, 1) := by decide +kernel
theorem dX6_forbid_33 : decode cX6_forbid 33 = .ok (.getfield 145, 3) := by decide +kernel
theorem dX6_forbid_36 : decode cX6_forbid 36 = .ok (.istore_n 3, 1) := by decide +kernel
theorem dX6_forbid_37 : decode cX6_forbid 37 = .ok (.aload_n 0, 1) := by decide +kernel
theorem dX6_forbid_38 : decode cX6_forbid 38 = .ok (.getfield 18, 3) := by decide +kernel
theorem dX6_forbid_41 : decode cX6_forbid 41 = .ok (.iload_n 1, 1) := by decide +kernel
theorem dX6_forbid_42 : decode cX6_forbid 42 = .ok (.aaload, 1) := by decide +kernel
theorem dX6_forbid_43 : decode cX6_forbid 43 = .ok (.iload_n 2, 1) := by decide +kernel
theorem dX6_forbid_44 : decode cX6_forbid 44 = .ok (.putfield 145, 3) := by decide +kernel
theorem dX6_forbid_47 : decode cX6_forbid 47 = .ok (.iload_n 3, 1) := by decide +kernel
theorem dX6_forbid_48 : decode cX6_forbid 48 = .ok (.ireturn, 1) := by decide +kernel
theorem dX6_volume_0 : decode cX6_volume 0 = .ok (.iload_n 1, 1) := by decide +kernel
theorem dX6_volume_1 : decode cX6_volume 1 = .ok (.invokestatic 44, 3) := by decide +kernel
theorem dX6_volume_4 : decode cX6_volume 4 = .ok (.ifCond .eq 14, 3) := by decide +kernel
theorem dX6_volume_7 : decode cX6_volume 7 = .ok (.iload_n 2, 1) := by decide +kernel
theorem dX6_volume_8 : decode cX6_volume 8 = .ok (.iconst 1, 1) := by decide +kernel
theorem dX6_volume_9 : decode cX6_volume 9 = .ok (.if_icmp .lt 9, 3) := by decide +kernel
theorem dX6_volume_12 : decode cX6_volume 12 = .ok (.iload_n 2, 1) := by decide +kernel
theorem dX6_volume_13 : decode cX6_volume 13 = .ok (.bipush 99, 2) := by decide +kernel
theorem dX6_volume_15 : decode cX6_volume 15 = .ok (.if_icmp .le 13, 3) := by decide +kernel
theorem dX6_volume_18 : decode cX6_volume 18 = .ok (.new 51, 3) := by decide +kernel
theorem dX6_volume_21 : decode cX6_volume 21 = .ok (.dup, 1) := by decide +kernel
theorem dX6_volume_22 : decode cX6_volume 22 = .ok (.ldc 148, 2) := by decide +kernel
theorem dX6_volume_24 : decode cX6_volume 24 = .ok (.invokespecial 55, 3) := by decide +kernel
theorem dX6_volume_27 : decode cX6_volume 27 = .ok (.athrow, 1) := by decide +kernel
theorem dX6_volume_28 : decode cX6_volume 28 = .ok (.aload_n 0, 1) := by decide +kernel
theorem dX6_volume_29 : decode cX6_volume 29 = .ok (.getfield 150, 3) := by decide +kernel
theorem dX6_volume_32 : decode cX6_volume 32 = .ok (.ifCond .le 31, 3) := by decide +kernel
theorem dX6_volume_35 : decode cX6_volume 35 = .ok (.iload_n 1, 1) := by decide +kernel
theorem dX6_volume_36 : decode cX6_volume 36 = .ok (.aload_n 0, 1) := by decide +kernel
theorem dX6_volume_37 : decode cX6_volume 37 = .ok (.getfield 24, 3) := by decide +kernel
theorem dX6_volume_40 : decode cX6_volume 40 = .ok (.aload_n 0, 1) := by decide +kernel
theorem dX6_volume_41 : decode cX6_volume 41 = .ok (.getfield 150, 3) := by decide +kernel
theorem dX6_volume_44 : decode cX6_volume 44 = .ok (.iconst 1, 1) := by decide +kernel
theorem dX6_volume_45 : decode cX6_volume 45 = .ok (.isub, 1) := by decide +kernel
theorem dX6_volume_46 : decode cX6_volume 46 = .ok (.aaload, 1) := by decide +kernel
theorem dX6_volume_47 : decode cX6_volume 47 = .ok (.getfield 153, 3) := by decide +kernel
theorem dX6_volume_50 : decode cX6_volume 50 = .ok (.if_icmp .gt 13, 3) := by decide +kernel
theorem dX6_volume_53 : decode cX6_volume 53 = .ok (.new 51, 3) := by decide +kernel
theorem dX6_volume_56 : decode cX6_volume 56 = .ok (.dup, 1) := by decide +kernel
theorem dX6_volume_57 : decode cX6_volume 57 = .ok (.ldc 157, 2) := by decide +kernel
theorem dX6_volume_59 : decode cX6_volume 59 = .ok (.invokespecial 55, 3) := by decide +kernel
theorem dX6_volume_62 : decode cX6_volume 62 = .ok (.athrow, 1) := by decide +kernel
theorem dX6_volume_63 : decode cX6_volume 63 = .ok (.aload_n 0, 1) := by decide +kernel
theorem dX6_volume_64 : decode cX6_volume 64 = .ok (.getfield 150, 3) := by decide +kernel
theorem dX6_volume_67 : decode cX6_volume 67 = .ok (.iconst 4, 1) := by decide +kernel
theorem dX6_volume_68 : decode cX6_volume 68 = .ok (.if_icmp .lt 13, 3) := by decide +kernel
theorem dX6_volume_71 : decode cX6_volume 71 = .ok (.new 62, 3) := by decide +kernel
theorem dX6_volume_74 : decode cX6_volume 74 = .ok (.dup, 1) := by decide +kernel
theorem dX6_volume_75 : decode cX6_volume 75 = .ok (.ldc 159, 2) := by decide +kernel
theorem dX6_volume_77 : decode cX6_volume 77 = .ok (.invokespecial 66, 3) := by decide +kernel
theorem dX6_volume_80 : decode cX6_volume 80 = .ok (.athrow, 1) := by decide +kernel
theorem dX6_volume_81 : decode cX6_volume 81 = .ok (.aload_n 0, 1) := by decide +kernel
theorem dX6_volume_82 : decode cX6_volume 82 = .ok (.getfield 24, 3) := by decide +kernel
theorem dX6_volume_85 : decode cX6_volume 85 = .ok (.aload_n 0, 1) := by decide +kernel
theorem dX6_volume_86 : decode cX6_volume 86 = .ok (.getfield 150, 3) := by decide +kernel
theorem dX6_volume_89 : decode cX6_volume 89 = .ok (.aaload, 1) := by decide +kernel
theorem dX6_volume_90 : decode cX6_volume 90 = .ok (.iload_n 1, 1) := by decide +kernel
theorem dX6_volume_91 : decode cX6_volume 91 = .ok (.putfield 153, 3) := by decide +kernel
theorem dX6_volume_94 : decode cX6_volume 94 = .ok (.aload_n 0, 1) := by decide +kernel
theorem dX6_volume_95 : decode cX6_volume 95 = .ok (.getfield 24, 3) := by decide +kernel
theorem dX6_volume_98 : decode cX6_volume 98 = .ok (.aload_n 0, 1) := by decide +kernel
theorem dX6_volume_99 : decode cX6_volume 99 = .ok (.getfield 150, 3) := by decide +kernel
theorem dX6_volume_102 : decode cX6_volume 102 = .ok (.aaload, 1) := by decide +kernel
theorem dX6_volume_103 : decode cX6_volume 103 = .ok (.iload_n 2, 1) := by decide +kernel
theorem dX6_volume_104 : decode cX6_volume 104 = .ok (.putfield 161, 3) := by decide +kernel
theorem dX6_volume_107 : decode cX6_volume 107 = .ok (.aload_n 0, 1) := by decide +kernel
theorem dX6_volume_108 : decode cX6_volume 108 = .ok (.dup, 1) := by decide +kernel
theorem dX6_volume_109 : decode cX6_volume 109 = .ok (.getfield 150, 3) := by decide +kernel
theorem dX6_volume_112 : decode cX6_volume 112 = .ok (.dup_x1, 1) := by decide +kernel
theorem dX6_volume_113 : decode cX6_volume 113 = .ok (.iconst 1, 1) := by decide +kernel
theorem dX6_volume_114 : decode cX6_volume 114 = .ok (.iadd, 1) := by decide +kernel
theorem dX6_volume_115 : decode cX6_volume 115 = .ok (.putfield 150, 3) := by decide +kernel
theorem dX6_volume_118 : decode cX6_volume 118 = .ok (.ireturn, 1) := by decide +kernel
theorem dX6_contributor_0 : decode cX6_contributor 0 = .ok (.iload_n 1, 1) := by decide +kernel
theorem dX6_contributor_1 : decode cX6_contributor 1 = .ok (.iconst 1, 1) := by decide +kernel
theorem dX6_contributor_2 : decode cX6_contributor 2 = .ok (.if_icmp .lt 9, 3) := by decide +kernel
theorem dX6_contributor_5 : decode cX6_contributor 5 = .ok (.iload_n 1, 1) := by decide +kernel
theorem dX6_contributor_6 : decode cX6_contributor 6 = .ok (.bipush 9, 2) := by decide +kernel
theorem dX6_contributor_8 : decode cX6_contributor 8 = .ok (.if_icmp .le 13, 3) := by decide +kernel
theorem dX6_contributor_11 : decode cX6_contributor 11 = .ok (.new 51, 3) := by decide +kernel
theorem dX6_contributor_14 : decode cX6_contributor 14 = .ok (.dup, 1) := by decide +kernel
theorem dX6_contributor_15 : decode cX6_contributor 15 = .ok (.ldc 164, 2) := by decide +kernel
theorem dX6_contributor_17 : decode cX6_contributor 17 = .ok (.invokespecial 55, 3) := by decide +kernel
theorem dX6_contributor_20 : decode cX6_contributor 20 = .ok (.athrow, 1) := by decide +kernel
theorem dX6_contributor_21 : decode cX6_contributor 21 = .ok (.aload_n 0, 1) := by decide +kernel
theorem dX6_contributor_22 : decode cX6_contributor 22 = .ok (.getfield 166, 3) := by decide +kernel
theorem dX6_contributor_25 : decode cX6_contributor 25 = .ok (.bipush 6, 2) := by decide +kernel
theorem dX6_contributor_27 : decode cX6_contributor 27 = .ok (.if_icmp .lt 13, 3) := by decide +kernel
theorem dX6_contributor_30 : decode cX6_contributor 30 = .ok (.new 62, 3) := by decide +kernel
theorem dX6_contributor_33 : decode cX6_contributor 33 = .ok (.dup, 1) := by decide +kernel
theorem dX6_contributor_34 : decode cX6_contributor 34 = .ok (.ldc 169, 2) := by decide +kernel
theorem dX6_contributor_36 : decode cX6_contributor 36 = .ok (.invokespecial 66, 3) := by decide +kernel
theorem dX6_contributor_39 : decode cX6_contributor 39 = .ok (.athrow, 1) := by decide +kernel
theorem dX6_contributor_40 : decode cX6_contributor 40 = .ok (.aload_n 0, 1) := by decide +kernel
theorem dX6_contributor_41 : decode cX6_contributor 41 = .ok (.getfield 30, 3) := by decide +kernel
theorem dX6_contributor_44 : decode cX6_contributor 44 = .ok (.aload_n 0, 1) := by decide +kernel
theorem dX6_contributor_45 : decode cX6_contributor 45 = .ok (.getfield 166, 3) := by decide +kernel
theorem dX6_contributor_48 : decode cX6_contributor 48 = .ok (.aaload, 1) := by decide +kernel
theorem dX6_contributor_49 : decode cX6_contributor 49 = .ok (.iload_n 1, 1) := by decide +kernel
theorem dX6_contributor_50 : decode cX6_contributor 50 = .ok (.putfield 171, 3) := by decide +kernel
theorem dX6_contributor_53 : decode cX6_contributor 53 = .ok (.aload_n 0, 1) := by decide +kernel
theorem dX6_contributor_54 : decode cX6_contributor 54 = .ok (.dup, 1) := by decide +kernel
theorem dX6_contributor_55 : decode cX6_contributor 55 = .ok (.getfield 166, 3) := by decide +kernel
theorem dX6_contributor_58 : decode cX6_contributor 58 = .ok (.dup_x1, 1) := by decide +kernel
theorem dX6_contributor_59 : decode cX6_contributor 59 = .ok (.iconst 1, 1) := by decide +kernel
theorem dX6_contributor_60 : decode cX6_contributor 60 = .ok (.iadd, 1) := by decide +kernel
theorem dX6_contributor_61 : decode cX6_contributor 61 = .ok (.putfield 166, 3) := by decide +kernel
theorem dX6_contributor_64 : decode cX6_contributor 64 = .ok (.ireturn, 1) := by decide +kernel
theorem dX6_quarrel_0 : decode cX6_quarrel 0 = .ok (.aload_n 0, 1) := by decide +kernel
theorem dX6_quarrel_1 : decode cX6_quarrel 1 = .ok (.iload_n 1, 1) := by decide +kernel
theorem dX6_quarrel_2 : decode cX6_quarrel 2 = .ok (.invokevirtual 174, 3) := by decide +kernel
theorem dX6_quarrel_5 : decode cX6_quarrel 5 = .ok (.aload_n 0, 1) := by decide +kernel
theorem dX6_quarrel_6 : decode cX6_quarrel 6 = .ok (.iload_n 2, 1) := by decide +kernel
theorem dX6_quarrel_7 : decode cX6_quarrel 7 = .ok (.invokevirtual 174, 3) := by decide +kernel
theorem dX6_quarrel_10 : decode cX6_quarrel 10 = .ok (.iload_n 1, 1) := by decide +kernel
theorem dX6_quarrel_11 : decode cX6_quarrel 11 = .ok (.iload_n 2, 1) := by decide +kernel
theorem dX6_quarrel_12 : decode cX6_quarrel 12 = .ok (.if_icmp .ne 13, 3) := by decide +kernel
theorem dX6_quarrel_15 : decode cX6_quarrel 15 = .ok (.new 51, 3) := by decide +kernel
theorem dX6_quarrel_18 : decode cX6_quarrel 18 = .ok (.dup, 1) := by decide +kernel
theorem dX6_quarrel_19 : decode cX6_quarrel 19 = .ok (.ldc 177, 2) := by decide +kernel
theorem dX6_quarrel_21 : decode cX6_quarrel 21 = .ok (.invokespecial 55, 3) := by decide +kernel
theorem dX6_quarrel_24 : decode cX6_quarrel 24 = .ok (.athrow, 1) := by decide +kernel
theorem dX6_quarrel_25 : decode cX6_quarrel 25 = .ok (.aload_n 0, 1) := by decide +kernel
theorem dX6_quarrel_26 : decode cX6_quarrel 26 = .ok (.getfield 30, 3) := by decide +kernel
theorem dX6_quarrel_29 : decode cX6_quarrel 29 = .ok (.iload_n 1, 1) := by decide +kernel
theorem dX6_quarrel_30 : decode cX6_quarrel 30 = .ok (.aaload, 1) := by decide +kernel
theorem dX6_quarrel_31 : decode cX6_quarrel 31 = .ok (.getfield 179, 3) := by decide +kernel
theorem dX6_quarrel_34 : decode cX6_quarrel 34 = .ok (.iload_n 2, 1) := by decide +kernel
theorem dX6_quarrel_35 : decode cX6_quarrel 35 = .ok (.baload, 1) := by decide +kernel
theorem dX6_quarrel_36 : decode cX6_quarrel 36 = .ok (.istore_n 3, 1) := by decide +kernel
theorem dX6_quarrel_37 : decode cX6_quarrel 37 = .ok (.aload_n 0, 1) := by decide +kernel
theorem dX6_quarrel_38 : decode cX6_quarrel 38 = .ok (.getfield 30, 3) := by decide +kernel
theorem dX6_quarrel_41 : decode cX6_quarrel 41 = .ok (.iload_n 1, 1) := by decide +kernel
theorem dX6_quarrel_42 : decode cX6_quarrel 42 = .ok (.aaload, 1) := by decide +kernel
theorem dX6_quarrel_43 : decode cX6_quarrel 43 = .ok (.getfield 179, 3) := by decide +kernel
theorem dX6_quarrel_46 : decode cX6_quarrel 46 = .ok (.iload_n 2, 1) := by decide +kernel
theorem dX6_quarrel_47 : decode cX6_quarrel 47 = .ok (.iconst 1, 1) := by decide +kernel
theorem dX6_quarrel_48 : decode cX6_quarrel 48 = .ok (.bastore, 1) := by decide +kernel
theorem dX6_quarrel_49 : decode cX6_quarrel 49 = .ok (.aload_n 0, 1) := by decide +kernel
theorem dX6_quarrel_50 : decode cX6_quarrel 50 = .ok (.getfield 30, 3) := by decide +kernel
theorem dX6_quarrel_53 : decode cX6_quarrel 53 = .ok (.iload_n 2, 1) := by decide +kernel
theorem dX6_quarrel_54 : decode cX6_quarrel 54 = .ok (.aaload, 1) := by decide +kernel
theorem dX6_quarrel_55 : decode cX6_quarrel 55 = .ok (.getfield 179, 3) := by decide +kernel
theorem dX6_quarrel_58 : decode cX6_quarrel 58 = .ok (.iload_n 1, 1) := by decide +kernel
theorem dX6_quarrel_59 : decode cX6_quarrel 59 = .ok (.iconst 1, 1) := by decide +kernel
theorem dX6_quarrel_60 : decode cX6_quarrel 60 = .ok (.bastore, 1) := by decide +kernel
theorem dX6_quarrel_61 : decode cX6_quarrel 61 = .ok (.iload_n 3, 1) := by decide +kernel
theorem dX6_quarrel_62 : decode cX6_quarrel 62 = .ok (.ireturn, 1) := by decide +kernel
theorem dX6_give_0 : decode cX6_give 0 = .ok (.aload_n 0, 1) := by decide +kernel
theorem dX6_give_1 : decode cX6_give 1 = .ok (.iload_n 1, 1) := by decide +kernel
theorem dX6_give_2 : decode cX6_give 2 = .ok (.invokevirtual 113, 3) := by decide +kernel
theorem dX6_give_5 : decode cX6_give 5 = .ok (.aload_n 0, 1) := by decide +kernel
theorem dX6_give_6 : decode cX6_give 6 = .ok (.iload_n 2, 1) := by decide +kernel
theorem dX6_give_7 : decode cX6_give 7 = .ok (.invokevirtual 174, 3) := by decide +kernel
theorem dX6_give_10 : decode cX6_give 10 = .ok (.aload_n 0, 1) := by decide +kernel
theorem dX6_give_11 : decode cX6_give 11 = .ok (.getfield 18, 3) := by decide +kernel
theorem dX6_give_14 : decode cX6_give 14 = .ok (.iload_n 1, 1) := by decide +kernel
theorem dX6_give_15 : decode cX6_give 15 = .ok (.aaload, 1) := by decide +kernel
theorem dX6_give_16 : decode cX6_give 16 = .ok (.astore_n 3, 1) := by decide +kernel
theorem dX6_give_17 : decode cX6_give 17 = .ok (.aload_n 0, 1) := by decide +kernel
theorem dX6_give_18 : decode cX6_give 18 = .ok (.getfield 30, 3) := by decide +kernel
theorem dX6_give_21 : decode cX6_give 21 = .ok (.iload_n 2, 1) := by decide +kernel
theorem dX6_give_22 : decode cX6_give 22 = .ok (.aaload, 1) := by decide +kernel
theorem dX6_give_23 : decode cX6_give 23 = .ok (.astore 4, 2) := by decide +kernel
theorem dX6_give_25 : decode cX6_give 25 = .ok (.aload_n 0, 1) := by decide +kernel
theorem dX6_give_26 : decode cX6_give 26 = .ok (.aload_n 3, 1) := by decide +kernel
theorem dX6_give_27 : decode cX6_give 27 = .ok (.invokevirtual 182, 3) := by decide +kernel
theorem dX6_give_30 : decode cX6_give 30 = .ok (.ifCond .eq 21, 3) := by decide +kernel
theorem dX6_give_33 : decode cX6_give 33 = .ok (.aload 4, 2) := by decide +kernel
theorem dX6_give_35 : decode cX6_give 35 = .ok (.getfield 186, 3) := by decide +kernel
theorem dX6_give_38 : decode cX6_give 38 = .ok (.ifCond .ne 13, 3) := by decide +kernel
theorem dX6_give_41 : decode cX6_give 41 = .ok (.aload_n 0, 1) := by decide +kernel
theorem dX6_give_42 : decode cX6_give 42 = .ok (.aload_n 3, 1) := by decide +kernel
theorem dX6_give_43 : decode cX6_give 43 = .ok (.aload 4, 2) := by decide +kernel
theorem dX6_give_45 : decode cX6_give 45 = .ok (.invokevirtual 189, 3) := by decide +kernel
theorem dX6_give_48 : decode cX6_give 48 = .ok (.ifCond .eq 13, 3) := by decide +kernel
theorem dX6_give_51 : decode cX6_give 51 = .ok (.new 62, 3) := by decide +kernel
theorem dX6_give_54 : decode cX6_give 54 = .ok (.dup, 1) := by decide +kernel
theorem dX6_give_55 : decode cX6_give 55 = .ok (.ldc 193, 2) := by decide +kernel
theorem dX6_give_57 : decode cX6_give 57 = .ok (.invokespecial 66, 3) := by decide +kernel
theorem dX6_give_60 : decode cX6_give 60 = .ok (.athrow, 1) := by decide +kernel
theorem dX6_give_61 : decode cX6_give 61 = .ok (.aload_n 3, 1) := by decide +kernel
theorem dX6_give_62 : decode cX6_give 62 = .ok (.iload_n 2, 1) := by decide +kernel
theorem dX6_give_63 : decode cX6_give 63 = .ok (.putfield 195, 3) := by decide +kernel
theorem dX6_give_66 : decode cX6_give 66 = .ok (.aload 4, 2) := by decide +kernel
theorem dX6_give_68 : decode cX6_give 68 = .ok (.iload_n 1, 1) := by decide +kernel
theorem dX6_give_69 : decode cX6_give 69 = .ok (.invokevirtual 198, 3) := by decide +kernel
theorem dX6_give_72 : decode cX6_give 72 = .ok (.aload 4, 2) := by decide +kernel
theorem dX6_give_74 : decode cX6_give 74 = .ok (.getfield 201, 3) := by decide +kernel
theorem dX6_give_77 : decode cX6_give 77 = .ok (.iconst 1, 1) := by decide +kernel
theorem dX6_give_78 : decode cX6_give 78 = .ok (.if_icmp .ne 9, 3) := by decide +kernel
theorem dX6_give_81 : decode cX6_give 81 = .ok (.aload_n 0, 1) := by decide +kernel
theorem dX6_give_82 : decode cX6_give 82 = .ok (.aload 4, 2) := by decide +kernel
theorem dX6_give_84 : decode cX6_give 84 = .ok (.invokevirtual 204, 3) := by decide +kernel
theorem dX6_give_87 : decode cX6_give 87 = .ok (.aload 4, 2) := by decide +kernel
theorem dX6_give_89 : decode cX6_give 89 = .ok (.getfield 201, 3) := by decide +kernel
theorem dX6_give_92 : decode cX6_give 92 = .ok (.ireturn, 1) := by decide +kernel
theorem dX6_die_0 : decode cX6_die 0 = .ok (.aload_n 0, 1) := by decide +kernel
theorem dX6_die_1 : decode cX6_die 1 = .ok (.iload_n 1, 1) := by decide +kernel
theorem dX6_die_2 : decode cX6_die 2 = .ok (.invokevirtual 174, 3) := by decide +kernel
theorem dX6_die_5 : decode cX6_die 5 = .ok (.aload_n 0, 1) := by decide +kernel
theorem dX6_die_6 : decode cX6_die 6 = .ok (.getfield 30, 3) := by decide +kernel
theorem dX6_die_9 : decode cX6_die 9 = .ok (.iload_n 1, 1) := by decide +kernel
theorem dX6_die_10 : decode cX6_die 10 = .ok (.aaload, 1) := by decide +kernel
theorem dX6_die_11 : decode cX6_die 11 = .ok (.astore_n 2, 1) := by decide +kernel
theorem dX6_die_12 : decode cX6_die 12 = .ok (.aload_n 2, 1) := by decide +kernel
theorem dX6_die_13 : decode cX6_die 13 = .ok (.getfield 186, 3) := by decide +kernel
theorem dX6_die_16 : decode cX6_die 16 = .ok (.ifCond .eq 13, 3) := by decide +kernel
theorem dX6_die_19 : decode cX6_die 19 = .ok (.new 62, 3) := by decide +kernel
theorem dX6_die_22 : decode cX6_die 22 = .ok (.dup, 1) := by decide +kernel
theorem dX6_die_23 : decode cX6_die 23 = .ok (.ldc 208, 2) := by decide +kernel
theorem dX6_die_25 : decode cX6_die 25 = .ok (.invokespecial 66, 3) := by decide +kernel
theorem dX6_die_28 : decode cX6_die 28 = .ok (.athrow, 1) := by decide +kernel
theorem dX6_die_29 : decode cX6_die 29 = .ok (.aload_n 2, 1) := by decide +kernel
theorem dX6_die_30 : decode cX6_die 30 = .ok (.getfield 201, 3) := by decide +kernel
theorem dX6_die_33 : decode cX6_die 33 = .ok (.istore_n 3, 1) := by decide +kernel
theorem dX6_die_34 : decode cX6_die 34 = .ok (.iconst 0, 1) := by decide +kernel
theorem dX6_die_35 : decode cX6_die 35 = .ok (.istore 4, 2) := by decide +kernel
theorem dX6_die_37 : decode cX6_die 37 = .ok (.iload 4, 2) := by decide +kernel
theorem dX6_die_39 : decode cX6_die 39 = .ok (.iload_n 3, 1) := by decide +kernel
theorem dX6_die_40 : decode cX6_die 40 = .ok (.if_icmp .ge 35, 3) := by decide +kernel
theorem dX6_die_43 : decode cX6_die 43 = .ok (.aload_n 0, 1) := by decide +kernel
theorem dX6_die_44 : decode cX6_die 44 = .ok (.getfield 18, 3) := by decide +kernel
theorem dX6_die_47 : decode cX6_die 47 = .ok (.aload_n 2, 1) := by decide +kernel
theorem dX6_die_48 : decode cX6_die 48 = .ok (.getfield 210, 3) := by decide +kernel
theorem dX6_die_51 : decode cX6_die 51 = .ok (.iload 4, 2) := by decide +kernel
theorem dX6_die_53 : decode cX6_die 53 = .ok (.iaload, 1) := by decide +kernel
theorem dX6_die_54 : decode cX6_die 54 = .ok (.aaload, 1) := by decide +kernel
theorem dX6_die_55 : decode cX6_die 55 = .ok (.astore 5, 2) := by decide +kernel
theorem dX6_die_57 : decode cX6_die 57 = .ok (.aload 5, 2) := by decide +kernel
theorem dX6_die_59 : decode cX6_die 59 = .ok (.iconst (-1), 1) := by decide +kernel
theorem dX6_die_60 : decode cX6_die 60 = .ok (.putfield 195, 3) := by decide +kernel
theorem dX6_die_63 : decode cX6_die 63 = .ok (.aload 5, 2) := by decide +kernel
theorem dX6_die_65 : decode cX6_die 65 = .ok (.iconst (-1), 1) := by decide +kernel
theorem dX6_die_66 : decode cX6_die 66 = .ok (.putfield 213, 3) := by decide +kernel
theorem dX6_die_69 : decode cX6_die 69 = .ok (.iinc 4 1, 3) := by decide +kernel
theorem dX6_die_72 : decode cX6_die 72 = .ok (.goto (-35), 3) := by decide +kernel
theorem dX6_die_75 : decode cX6_die 75 = .ok (.aload_n 2, 1) := by decide +kernel
theorem dX6_die_76 : decode cX6_die 76 = .ok (.iconst 0, 1) := by decide +kernel
theorem dX6_die_77 : decode cX6_die 77 = .ok (.putfield 201, 3) := by decide +kernel
theorem dX6_die_80 : decode cX6_die 80 = .ok (.aload_n 2, 1) := by decide +kernel
theorem dX6_die_81 : decode cX6_die 81 = .ok (.iconst 1, 1) := by decide +kernel
theorem dX6_die_82 : decode cX6_die 82 = .ok (.putfield 186, 3) := by decide +kernel
theorem dX6_die_85 : decode cX6_die 85 = .ok (.iload_n 3, 1) := by decide +kernel
theorem dX6_die_86 : decode cX6_die 86 = .ok (.ireturn, 1) := by decide +kernel
theorem dX6_pass_0 : decode cX6_pass 0 = .ok (.iload_n 1, 1) := by decide +kernel
theorem dX6_pass_1 : decode cX6_pass 1 = .ok (.iconst 1, 1) := by decide +kernel
theorem dX6_pass_2 : decode cX6_pass 2 = .ok (.if_icmp .lt 9, 3) := by decide +kernel
theorem dX6_pass_5 : decode cX6_pass 5 = .ok (.iload_n 1, 1) := by decide +kernel
theorem dX6_pass_6 : decode cX6_pass 6 = .ok (.bipush 50, 2) := by decide +kernel
theorem dX6_pass_8 : decode cX6_pass 8 = .ok (.if_icmp .le 13, 3) := by decide +kernel
theorem dX6_pass_11 : decode cX6_pass 11 = .ok (.new 51, 3) := by decide +kernel
theorem dX6_pass_14 : decode cX6_pass 14 = .ok (.dup, 1) := by decide +kernel
theorem dX6_pass_15 : decode cX6_pass 15 = .ok (.ldc 216, 2) := by decide +kernel
theorem dX6_pass_17 : decode cX6_pass 17 = .ok (.invokespecial 55, 3) := by decide +kernel
theorem dX6_pass_20 : decode cX6_pass 20 = .ok (.athrow, 1) := by decide +kernel
theorem dX6_pass_21 : decode cX6_pass 21 = .ok (.iconst 0, 1) := by decide +kernel
theorem dX6_pass_22 : decode cX6_pass 22 = .ok (.istore_n 2, 1) := by decide +kernel
theorem dX6_pass_23 : decode cX6_pass 23 = .ok (.iconst 0, 1) := by decide +kernel
theorem dX6_pass_24 : decode cX6_pass 24 = .ok (.istore_n 3, 1) := by decide +kernel
theorem dX6_pass_25 : decode cX6_pass 25 = .ok (.iload_n 3, 1) := by decide +kernel
theorem dX6_pass_26 : decode cX6_pass 26 = .ok (.iload_n 1, 1) := by decide +kernel
theorem dX6_pass_27 : decode cX6_pass 27 = .ok (.if_icmp .ge 54, 3) := by decide +kernel
theorem dX6_pass_30 : decode cX6_pass 30 = .ok (.aload_n 0, 1) := by decide +kernel
theorem dX6_pass_31 : decode cX6_pass 31 = .ok (.dup, 1) := by decide +kernel
theorem dX6_pass_32 : decode cX6_pass 32 = .ok (.getfield 218, 3) := by decide +kernel
theorem dX6_pass_35 : decode cX6_pass 35 = .ok (.iconst 1, 1) := by decide +kernel
theorem dX6_pass_36 : decode cX6_pass 36 = .ok (.iadd, 1) := by decide +kernel
theorem dX6_pass_37 : decode cX6_pass 37 = .ok (.putfield 218, 3) := by decide +kernel
theorem dX6_pass_40 : decode cX6_pass 40 = .ok (.iconst 0, 1) := by decide +kernel
theorem dX6_pass_41 : decode cX6_pass 41 = .ok (.istore 4, 2) := by decide +kernel
theorem dX6_pass_43 : decode cX6_pass 43 = .ok (.iload 4, 2) := by decide +kernel
theorem dX6_pass_45 : decode cX6_pass 45 = .ok (.aload_n 0, 1) := by decide +kernel
theorem dX6_pass_46 : decode cX6_pass 46 = .ok (.getfield 166, 3) := by decide +kernel
theorem dX6_pass_49 : decode cX6_pass 49 = .ok (.if_icmp .ge 26, 3) := by decide +kernel
theorem dX6_pass_52 : decode cX6_pass 52 = .ok (.aload_n 0, 1) := by decide +kernel
theorem dX6_pass_53 : decode cX6_pass 53 = .ok (.aload_n 0, 1) := by decide +kernel
theorem dX6_pass_54 : decode cX6_pass 54 = .ok (.getfield 30, 3) := by decide +kernel
theorem dX6_pass_57 : decode cX6_pass 57 = .ok (.iload 4, 2) := by decide +kernel
theorem dX6_pass_59 : decode cX6_pass 59 = .ok (.aaload, 1) := by decide +kernel
theorem dX6_pass_60 : decode cX6_pass 60 = .ok (.invokevirtual 221, 3) := by decide +kernel
theorem dX6_pass_63 : decode cX6_pass 63 = .ok (.ifCond .eq 6, 3) := by decide +kernel
theorem dX6_pass_66 : decode cX6_pass 66 = .ok (.iinc 2 1, 3) := by decide +kernel
theorem dX6_pass_69 : decode cX6_pass 69 = .ok (.iinc 4 1, 3) := by decide +kernel
theorem dX6_pass_72 : decode cX6_pass 72 = .ok (.goto (-29), 3) := by decide +kernel
theorem dX6_pass_75 : decode cX6_pass 75 = .ok (.iinc 3 1, 3) := by decide +kernel
theorem dX6_pass_78 : decode cX6_pass 78 = .ok (.goto (-53), 3) := by decide +kernel
theorem dX6_pass_81 : decode cX6_pass 81 = .ok (.iload_n 2, 1) := by decide +kernel
theorem dX6_pass_82 : decode cX6_pass 82 = .ok (.ireturn, 1) := by decide +kernel
theorem dX6_print_0 : decode cX6_print 0 = .ok (.aload_n 0, 1) := by decide +kernel
theorem dX6_print_1 : decode cX6_print 1 = .ok (.iload_n 1, 1) := by decide +kernel
theorem dX6_print_2 : decode cX6_print 2 = .ok (.invokevirtual 225, 3) := by decide +kernel
theorem dX6_print_5 : decode cX6_print 5 = .ok (.iload_n 1, 1) := by decide +kernel
theorem dX6_print_6 : decode cX6_print 6 = .ok (.aload_n 0, 1) := by decide +kernel
theorem dX6_print_7 : decode cX6_print 7 = .ok (.getfield 74, 3) := by decide +kernel
theorem dX6_print_10 : decode cX6_print 10 = .ok (.if_icmp .eq 13, 3) := by decide +kernel
theorem dX6_print_13 : decode cX6_print 13 = .ok (.new 62, 3) := by decide +kernel
theorem dX6_print_16 : decode cX6_print 16 = .ok (.dup, 1) := by decide +kernel
theorem dX6_print_17 : decode cX6_print 17 = .ok (.ldc 228, 2) := by decide +kernel
theorem dX6_print_19 : decode cX6_print 19 = .ok (.invokespecial 66, 3) := by decide +kernel
theorem dX6_print_22 : decode cX6_print 22 = .ok (.athrow, 1) := by decide +kernel
theorem dX6_print_23 : decode cX6_print 23 = .ok (.aload_n 0, 1) := by decide +kernel
theorem dX6_print_24 : decode cX6_print 24 = .ok (.dup, 1) := by decide +kernel
theorem dX6_print_25 : decode cX6_print 25 = .ok (.getfield 74, 3) := by decide +kernel
theorem dX6_print_28 : decode cX6_print 28 = .ok (.iconst 1, 1) := by decide +kernel
theorem dX6_print_29 : decode cX6_print 29 = .ok (.iadd, 1) := by decide +kernel
theorem dX6_print_30 : decode cX6_print 30 = .ok (.putfield 74, 3) := by decide +kernel
theorem dX6_print_33 : decode cX6_print 33 = .ok (.aload_n 0, 1) := by decide +kernel
theorem dX6_print_34 : decode cX6_print 34 = .ok (.iload_n 1, 1) := by decide +kernel
theorem dX6_print_35 : decode cX6_print 35 = .ok (.invokevirtual 230, 3) := by decide +kernel
theorem dX6_print_38 : decode cX6_print 38 = .ok (.istore_n 2, 1) := by decide +kernel
theorem dX6_print_39 : decode cX6_print 39 = .ok (.aload_n 0, 1) := by decide +kernel
theorem dX6_print_40 : decode cX6_print 40 = .ok (.invokevirtual 234, 3) := by decide +kernel
theorem dX6_print_43 : decode cX6_print 43 = .ok (.iload_n 2, 1) := by decide +kernel
theorem dX6_print_44 : decode cX6_print 44 = .ok (.ireturn, 1) := by decide +kernel
theorem dX6_supplement_0 : decode cX6_supplement 0 = .ok (.aload_n 0, 1) := by decide +kernel
theorem dX6_supplement_1 : decode cX6_supplement 1 = .ok (.getfield 74, 3) := by decide +kernel
theorem dX6_supplement_4 : decode cX6_supplement 4 = .ok (.ifCond .ne 13, 3) := by decide +kernel
theorem dX6_supplement_7 : decode cX6_supplement 7 = .ok (.new 62, 3) := by decide +kernel
theorem dX6_supplement_10 : decode cX6_supplement 10 = .ok (.dup, 1) := by decide +kernel
theorem dX6_supplement_11 : decode cX6_supplement 11 = .ok (.ldc 237, 2) := by decide +kernel
theorem dX6_supplement_13 : decode cX6_supplement 13 = .ok (.invokespecial 66, 3) := by decide +kernel
theorem dX6_supplement_16 : decode cX6_supplement 16 = .ok (.athrow, 1) := by decide +kernel
theorem dX6_supplement_17 : decode cX6_supplement 17 = .ok (.aload_n 0, 1) := by decide +kernel
theorem dX6_supplement_18 : decode cX6_supplement 18 = .ok (.iconst 0, 1) := by decide +kernel
theorem dX6_supplement_19 : decode cX6_supplement 19 = .ok (.invokevirtual 230, 3) := by decide +kernel
theorem dX6_supplement_22 : decode cX6_supplement 22 = .ok (.istore_n 1, 1) := by decide +kernel
theorem dX6_supplement_23 : decode cX6_supplement 23 = .ok (.aload_n 0, 1) := by decide +kernel
theorem dX6_supplement_24 : decode cX6_supplement 24 = .ok (.invokevirtual 234, 3) := by decide +kernel
theorem dX6_supplement_27 : decode cX6_supplement 27 = .ok (.bipush 100, 2) := by decide +kernel
theorem dX6_supplement_29 : decode cX6_supplement 29 = .ok (.iload_n 1, 1) := by decide +kernel
theorem dX6_supplement_30 : decode cX6_supplement 30 = .ok (.imul, 1) := by decide +kernel
theorem dX6_supplement_31 : decode cX6_supplement 31 = .ok (.aload_n 0, 1) := by decide +kernel
theorem dX6_supplement_32 : decode cX6_supplement 32 = .ok (.invokevirtual 239, 3) := by decide +kernel
theorem dX6_supplement_35 : decode cX6_supplement 35 = .ok (.iadd, 1) := by decide +kernel
theorem dX6_supplement_36 : decode cX6_supplement 36 = .ok (.aload_n 0, 1) := by decide +kernel
theorem dX6_supplement_37 : decode cX6_supplement 37 = .ok (.invokevirtual 243, 3) := by decide +kernel
theorem dX6_supplement_40 : decode cX6_supplement 40 = .ok (.iadd, 1) := by decide +kernel
theorem dX6_supplement_41 : decode cX6_supplement 41 = .ok (.ireturn, 1) := by decide +kernel
theorem dX6_month_0 : decode cX6_month 0 = .ok (.aload_n 0, 1) := by decide +kernel
theorem dX6_month_1 : decode cX6_month 1 = .ok (.getfield 218, 3) := by decide +kernel
theorem dX6_month_4 : decode cX6_month 4 = .ok (.ireturn, 1) := by decide +kernel
theorem dX6_at_0 : decode cX6_at 0 = .ok (.iload_n 1, 1) := by decide +kernel
theorem dX6_at_1 : decode cX6_at 1 = .ok (.ifCond .ge 13, 3) := by decide +kernel
theorem dX6_at_4 : decode cX6_at 4 = .ok (.new 246, 3) := by decide +kernel
theorem dX6_at_7 : decode cX6_at 7 = .ok (.dup, 1) := by decide +kernel
theorem dX6_at_8 : decode cX6_at 8 = .ok (.ldc 248, 2) := by decide +kernel
theorem dX6_at_10 : decode cX6_at 10 = .ok (.invokespecial 250, 3) := by decide +kernel
theorem dX6_at_13 : decode cX6_at 13 = .ok (.athrow, 1) := by decide +kernel
theorem dX6_at_14 : decode cX6_at 14 = .ok (.iconst 0, 1) := by decide +kernel
theorem dX6_at_15 : decode cX6_at 15 = .ok (.istore_n 2, 1) := by decide +kernel
theorem dX6_at_16 : decode cX6_at 16 = .ok (.iload_n 2, 1) := by decide +kernel
theorem dX6_at_17 : decode cX6_at 17 = .ok (.aload_n 0, 1) := by decide +kernel
theorem dX6_at_18 : decode cX6_at 18 = .ok (.getfield 89, 3) := by decide +kernel
theorem dX6_at_21 : decode cX6_at 21 = .ok (.if_icmp .ge 20, 3) := by decide +kernel
theorem dX6_at_24 : decode cX6_at 24 = .ok (.aload_n 0, 1) := by decide +kernel
theorem dX6_at_25 : decode cX6_at 25 = .ok (.iload_n 2, 1) := by decide +kernel
theorem dX6_at_26 : decode cX6_at 26 = .ok (.invokevirtual 251, 3) := by decide +kernel
theorem dX6_at_29 : decode cX6_at 29 = .ok (.iload_n 1, 1) := by decide +kernel
theorem dX6_at_30 : decode cX6_at 30 = .ok (.if_icmp .ne 5, 3) := by decide +kernel
theorem dX6_at_33 : decode cX6_at 33 = .ok (.iload_n 2, 1) := by decide +kernel
theorem dX6_at_34 : decode cX6_at 34 = .ok (.ireturn, 1) := by decide +kernel
theorem dX6_at_35 : decode cX6_at 35 = .ok (.iinc 2 1, 3) := by decide +kernel
theorem dX6_at_38 : decode cX6_at 38 = .ok (.goto (-22), 3) := by decide +kernel
theorem dX6_at_41 : decode cX6_at 41 = .ok (.iconst (-1), 1) := by decide +kernel
theorem dX6_at_42 : decode cX6_at 42 = .ok (.ireturn, 1) := by decide +kernel
theorem dX6_about_0 : decode cX6_about 0 = .ok (.aload_n 0, 1) := by decide +kernel
theorem dX6_about_1 : decode cX6_about 1 = .ok (.iload_n 1, 1) := by decide +kernel
theorem dX6_about_2 : decode cX6_about 2 = .ok (.invokevirtual 113, 3) := by decide +kernel
theorem dX6_about_5 : decode cX6_about 5 = .ok (.iload_n 2, 1) := by decide +kernel
theorem dX6_about_6 : decode cX6_about 6 = .ok (.ifCond .lt 8, 3) := by decide +kernel
theorem dX6_about_9 : decode cX6_about 9 = .ok (.iload_n 2, 1) := by decide +kernel
theorem dX6_about_10 : decode cX6_about 10 = .ok (.iconst 4, 1) := by decide +kernel
theorem dX6_about_11 : decode cX6_about 11 = .ok (.if_icmp .le 13, 3) := by decide +kernel
theorem dX6_about_14 : decode cX6_about 14 = .ok (.new 51, 3) := by decide +kernel
theorem dX6_about_17 : decode cX6_about 17 = .ok (.dup, 1) := by decide +kernel
theorem dX6_about_18 : decode cX6_about 18 = .ok (.ldc 254, 2) := by decide +kernel
theorem dX6_about_20 : decode cX6_about 20 = .ok (.invokespecial 55, 3) := by decide +kernel
theorem dX6_about_23 : decode cX6_about 23 = .ok (.athrow, 1) := by decide +kernel
theorem dX6_about_24 : decode cX6_about 24 = .ok (.aload_n 0, 1) := by decide +kernel
theorem dX6_about_25 : decode cX6_about 25 = .ok (.getfield 18, 3) := by decide +kernel
theorem dX6_about_28 : decode cX6_about 28 = .ok (.iload_n 1, 1) := by decide +kernel
theorem dX6_about_29 : decode cX6_about 29 = .ok (.aaload, 1) := by decide +kernel
theorem dX6_about_30 : decode cX6_about 30 = .ok (.astore_n 3, 1) := by decide +kernel
theorem dX6_about_31 : decode cX6_about 31 = .ok (.iload_n 2, 1) := by decide +kernel
theorem dX6_about_32 : decode cX6_about 32 = .ok (.tableswitch 57 0 3 #[32, 37, 46, 52], 32) := by decide +kernel
theorem dX6_about_64 : decode cX6_about 64 = .ok (.aload_n 3, 1) := by decide +kernel
theorem dX6_about_65 : decode cX6_about 65 = .ok (.invokevirtual 256, 3) := by decide +kernel
theorem dX6_about_68 : decode cX6_about 68 = .ok (.ireturn, 1) := by decide +kernel
theorem dX6_about_69 : decode cX6_about 69 = .ok (.aload_n 0, 1) := by decide +kernel
theorem dX6_about_70 : decode cX6_about 70 = .ok (.aload_n 3, 1) := by decide +kernel
theorem dX6_about_71 : decode cX6_about 71 = .ok (.getfield 104, 3) := by decide +kernel
theorem dX6_about_74 : decode cX6_about 74 = .ok (.invokevirtual 259, 3) := by decide +kernel
theorem dX6_about_77 : decode cX6_about 77 = .ok (.ireturn, 1) := by decide +kernel
theorem dX6_about_78 : decode cX6_about 78 = .ok (.aload_n 0, 1) := by decide +kernel
theorem dX6_about_79 : decode cX6_about 79 = .ok (.iload_n 1, 1) := by decide +kernel
theorem dX6_about_80 : decode cX6_about 80 = .ok (.invokevirtual 263, 3) := by decide +kernel
theorem dX6_about_83 : decode cX6_about 83 = .ok (.ireturn, 1) := by decide +kernel
theorem dX6_about_84 : decode cX6_about 84 = .ok (.aload_n 3, 1) := by decide +kernel
theorem dX6_about_85 : decode cX6_about 85 = .ok (.getfield 195, 3) := by decide +kernel
theorem dX6_about_88 : decode cX6_about 88 = .ok (.ireturn, 1) := by decide +kernel
theorem dX6_about_89 : decode cX6_about 89 = .ok (.aload_n 3, 1) := by decide +kernel
theorem dX6_about_90 : decode cX6_about 90 = .ok (.getfield 213, 3) := by decide +kernel
theorem dX6_about_93 : decode cX6_about 93 = .ok (.ireturn, 1) := by decide +kernel
theorem dX6_struck_0 : decode cX6_struck 0 = .ok (.iconst 0, 1) := by decide +kernel
theorem dX6_struck_1 : decode cX6_struck 1 = .ok (.istore_n 1, 1) := by decide +kernel
theorem dX6_struck_2 : decode cX6_struck 2 = .ok (.iconst 0, 1) := by decide +kernel
theorem dX6_struck_3 : decode cX6_struck 3 = .ok (.istore_n 2, 1) := by decide +kernel
theorem dX6_struck_4 : decode cX6_struck 4 = .ok (.iload_n 2, 1) := by decide +kernel
theorem dX6_struck_5 : decode cX6_struck 5 = .ok (.aload_n 0, 1) := by decide +kernel
theorem dX6_struck_6 : decode cX6_struck 6 = .ok (.getfield 89, 3) := by decide +kernel
theorem dX6_struck_9 : decode cX6_struck 9 = .ok (.if_icmp .ge 24, 3) := by decide +kernel
theorem dX6_struck_12 : decode cX6_struck 12 = .ok (.iload_n 1, 1) := by decide +kernel
theorem dX6_struck_13 : decode cX6_struck 13 = .ok (.aload_n 0, 1) := by decide +kernel
theorem dX6_struck_14 : decode cX6_struck 14 = .ok (.getfield 18, 3) := by decide +kernel
theorem dX6_struck_17 : decode cX6_struck 17 = .ok (.iload_n 2, 1) := by decide +kernel
theorem dX6_struck_18 : decode cX6_struck 18 = .ok (.aaload, 1) := by decide +kernel
theorem dX6_struck_19 : decode cX6_struck 19 = .ok (.getstatic 266, 3) := by decide +kernel
theorem dX6_struck_22 : decode cX6_struck 22 = .ok (.invokevirtual 272, 3) := by decide +kernel
theorem dX6_struck_25 : decode cX6_struck 25 = .ok (.iadd, 1) := by decide +kernel
theorem dX6_struck_26 : decode cX6_struck 26 = .ok (.istore_n 1, 1) := by decide +kernel
theorem dX6_struck_27 : decode cX6_struck 27 = .ok (.iinc 2 1, 3) := by decide +kernel
theorem dX6_struck_30 : decode cX6_struck 30 = .ok (.goto (-26), 3) := by decide +kernel
theorem dX6_struck_33 : decode cX6_struck 33 = .ok (.iload_n 1, 1) := by decide +kernel
theorem dX6_struck_34 : decode cX6_struck 34 = .ok (.ireturn, 1) := by decide +kernel
theorem dX6_errata_0 : decode cX6_errata 0 = .ok (.aload_n 0, 1) := by decide +kernel
theorem dX6_errata_1 : decode cX6_errata 1 = .ok (.iload_n 1, 1) := by decide +kernel
theorem dX6_errata_2 : decode cX6_errata 2 = .ok (.invokevirtual 174, 3) := by decide +kernel
theorem dX6_errata_5 : decode cX6_errata 5 = .ok (.aload_n 0, 1) := by decide +kernel
theorem dX6_errata_6 : decode cX6_errata 6 = .ok (.getfield 30, 3) := by decide +kernel
theorem dX6_errata_9 : decode cX6_errata 9 = .ok (.iload_n 1, 1) := by decide +kernel
theorem dX6_errata_10 : decode cX6_errata 10 = .ok (.aaload, 1) := by decide +kernel
theorem dX6_errata_11 : decode cX6_errata 11 = .ok (.getfield 276, 3) := by decide +kernel
theorem dX6_errata_14 : decode cX6_errata 14 = .ok (.ireturn, 1) := by decide +kernel
theorem dX6_open_0 : decode cX6_open 0 = .ok (.iconst 0, 1) := by decide +kernel
theorem dX6_open_1 : decode cX6_open 1 = .ok (.istore_n 2, 1) := by decide +kernel
theorem dX6_open_2 : decode cX6_open 2 = .ok (.iconst 0, 1) := by decide +kernel
theorem dX6_open_3 : decode cX6_open 3 = .ok (.istore_n 3, 1) := by decide +kernel
theorem dX6_open_4 : decode cX6_open 4 = .ok (.iload_n 3, 1) := by decide +kernel
theorem dX6_open_5 : decode cX6_open 5 = .ok (.aload_n 0, 1) := by decide +kernel
theorem dX6_open_6 : decode cX6_open 6 = .ok (.getfield 89, 3) := by decide +kernel
theorem dX6_open_9 : decode cX6_open 9 = .ok (.if_icmp .ge 35, 3) := by decide +kernel
theorem dX6_open_12 : decode cX6_open 12 = .ok (.aload_n 0, 1) := by decide +kernel
theorem dX6_open_13 : decode cX6_open 13 = .ok (.getfield 18, 3) := by decide +kernel
theorem dX6_open_16 : decode cX6_open 16 = .ok (.iload_n 3, 1) := by decide +kernel
theorem dX6_open_17 : decode cX6_open 17 = .ok (.aaload, 1) := by decide +kernel
theorem dX6_open_18 : decode cX6_open 18 = .ok (.iload_n 1, 1) := by decide +kernel
theorem dX6_open_19 : decode cX6_open 19 = .ok (.invokevirtual 279, 3) := by decide +kernel
theorem dX6_open_22 : decode cX6_open 22 = .ok (.ifCond .eq 16, 3) := by decide +kernel
theorem dX6_open_25 : decode cX6_open 25 = .ok (.iload_n 2, 1) := by decide +kernel
theorem dX6_open_26 : decode cX6_open 26 = .ok (.aload_n 0, 1) := by decide +kernel
theorem dX6_open_27 : decode cX6_open 27 = .ok (.aload_n 0, 1) := by decide +kernel
theorem dX6_open_28 : decode cX6_open 28 = .ok (.getfield 18, 3) := by decide +kernel
theorem dX6_open_31 : decode cX6_open 31 = .ok (.iload_n 3, 1) := by decide +kernel
theorem dX6_open_32 : decode cX6_open 32 = .ok (.aaload, 1) := by decide +kernel
theorem dX6_open_33 : decode cX6_open 33 = .ok (.invokevirtual 283, 3) := by decide +kernel
theorem dX6_open_36 : decode cX6_open 36 = .ok (.iadd, 1) := by decide +kernel
theorem dX6_open_37 : decode cX6_open 37 = .ok (.istore_n 2, 1) := by decide +kernel
theorem dX6_open_38 : decode cX6_open 38 = .ok (.iinc 3 1, 3) := by decide +kernel
theorem dX6_open_41 : decode cX6_open 41 = .ok (.goto (-37), 3) := by decide +kernel
theorem dX6_open_44 : decode cX6_open 44 = .ok (.iload_n 2, 1) := by decide +kernel
end
section
theorem dX6_open_45 : decode cX6_open 45 = .ok (.ireturn, 1) := by decide +kernel
theorem dX6_contradictions_0 : decode cX6_contradictions 0 = .ok (.iconst 0, 1) := by decide +kernel
theorem dX6_contradictions_1 : decode cX6_contradictions 1 = .ok (.istore_n 2, 1) := by decide +kernel
theorem dX6_contradictions_2 : decode cX6_contradictions 2 = .ok (.iconst 0, 1) := by decide +kernel
theorem dX6_contradictions_3 : decode cX6_contradictions 3 = .ok (.istore_n 3, 1) := by decide +kernel
theorem dX6_contradictions_4 : decode cX6_contradictions 4 = .ok (.iload_n 3, 1) := by decide +kernel
theorem dX6_contradictions_5 : decode cX6_contradictions 5 = .ok (.bipush 8, 2) := by decide +kernel
theorem dX6_contradictions_7 : decode cX6_contradictions 7 = .ok (.if_icmp .ge 21, 3) := by decide +kernel
theorem dX6_contradictions_10 : decode cX6_contradictions 10 = .ok (.aload_n 0, 1) := by decide +kernel
theorem dX6_contradictions_11 : decode cX6_contradictions 11 = .ok (.iload_n 3, 1) := by decide +kernel
theorem dX6_contradictions_12 : decode cX6_contradictions 12 = .ok (.iload_n 1, 1) := by decide +kernel
theorem dX6_contradictions_13 : decode cX6_contradictions 13 = .ok (.invokevirtual 287, 3) := by decide +kernel
theorem dX6_contradictions_16 : decode cX6_contradictions 16 = .ok (.ifCond .eq 6, 3) := by decide +kernel
theorem dX6_contradictions_19 : decode cX6_contradictions 19 = .ok (.iinc 2 1, 3) := by decide +kernel
theorem dX6_contradictions_22 : decode cX6_contradictions 22 = .ok (.iinc 3 1, 3) := by decide +kernel
theorem dX6_contradictions_25 : decode cX6_contradictions 25 = .ok (.goto (-21), 3) := by decide +kernel
theorem dX6_contradictions_28 : decode cX6_contradictions 28 = .ok (.iload_n 2, 1) := by decide +kernel
theorem dX6_contradictions_29 : decode cX6_contradictions 29 = .ok (.ireturn, 1) := by decide +kernel
theorem dX6_readAnew_0 : decode cX6_readAnew 0 = .ok (.bipush 100, 2) := by decide +kernel
theorem dX6_readAnew_2 : decode cX6_readAnew 2 = .ok (.aload_n 0, 1) := by decide +kernel
theorem dX6_readAnew_3 : decode cX6_readAnew 3 = .ok (.iload_n 1, 1) := by decide +kernel
theorem dX6_readAnew_4 : decode cX6_readAnew 4 = .ok (.invokevirtual 291, 3) := by decide +kernel
theorem dX6_readAnew_7 : decode cX6_readAnew 7 = .ok (.imul, 1) := by decide +kernel
theorem dX6_readAnew_8 : decode cX6_readAnew 8 = .ok (.aload_n 0, 1) := by decide +kernel
theorem dX6_readAnew_9 : decode cX6_readAnew 9 = .ok (.iload_n 1, 1) := by decide +kernel
theorem dX6_readAnew_10 : decode cX6_readAnew 10 = .ok (.invokevirtual 295, 3) := by decide +kernel
theorem dX6_readAnew_13 : decode cX6_readAnew 13 = .ok (.iadd, 1) := by decide +kernel
theorem dX6_readAnew_14 : decode cX6_readAnew 14 = .ok (.ireturn, 1) := by decide +kernel
theorem dX6_synopsis_0 : decode cX6_synopsis 0 = .ok (.iload_n 1, 1) := by decide +kernel
theorem dX6_synopsis_1 : decode cX6_synopsis 1 = .ok (.invokestatic 83, 3) := by decide +kernel
theorem dX6_synopsis_4 : decode cX6_synopsis 4 = .ok (.iconst 0, 1) := by decide +kernel
theorem dX6_synopsis_5 : decode cX6_synopsis 5 = .ok (.istore_n 2, 1) := by decide +kernel
theorem dX6_synopsis_6 : decode cX6_synopsis 6 = .ok (.iconst 0, 1) := by decide +kernel
theorem dX6_synopsis_7 : decode cX6_synopsis 7 = .ok (.istore_n 3, 1) := by decide +kernel
theorem dX6_synopsis_8 : decode cX6_synopsis 8 = .ok (.iload_n 3, 1) := by decide +kernel
theorem dX6_synopsis_9 : decode cX6_synopsis 9 = .ok (.aload_n 0, 1) := by decide +kernel
theorem dX6_synopsis_10 : decode cX6_synopsis 10 = .ok (.getfield 89, 3) := by decide +kernel
theorem dX6_synopsis_13 : decode cX6_synopsis 13 = .ok (.if_icmp .ge 41, 3) := by decide +kernel
theorem dX6_synopsis_16 : decode cX6_synopsis 16 = .ok (.aload_n 0, 1) := by decide +kernel
theorem dX6_synopsis_17 : decode cX6_synopsis 17 = .ok (.getfield 18, 3) := by decide +kernel
theorem dX6_synopsis_20 : decode cX6_synopsis 20 = .ok (.iload_n 3, 1) := by decide +kernel
theorem dX6_synopsis_21 : decode cX6_synopsis 21 = .ok (.aaload, 1) := by decide +kernel
theorem dX6_synopsis_22 : decode cX6_synopsis 22 = .ok (.getfield 116, 3) := by decide +kernel
theorem dX6_synopsis_25 : decode cX6_synopsis 25 = .ok (.ifCond .eq 23, 3) := by decide +kernel
theorem dX6_synopsis_28 : decode cX6_synopsis 28 = .ok (.aload_n 0, 1) := by decide +kernel
theorem dX6_synopsis_29 : decode cX6_synopsis 29 = .ok (.aload_n 0, 1) := by decide +kernel
theorem dX6_synopsis_30 : decode cX6_synopsis 30 = .ok (.getfield 18, 3) := by decide +kernel
theorem dX6_synopsis_33 : decode cX6_synopsis 33 = .ok (.iload_n 3, 1) := by decide +kernel
theorem dX6_synopsis_34 : decode cX6_synopsis 34 = .ok (.aaload, 1) := by decide +kernel
theorem dX6_synopsis_35 : decode cX6_synopsis 35 = .ok (.getfield 98, 3) := by decide +kernel
theorem dX6_synopsis_38 : decode cX6_synopsis 38 = .ok (.iload_n 1, 1) := by decide +kernel
theorem dX6_synopsis_39 : decode cX6_synopsis 39 = .ok (.invokevirtual 298, 3) := by decide +kernel
theorem dX6_synopsis_42 : decode cX6_synopsis 42 = .ok (.ifCond .eq 6, 3) := by decide +kernel
theorem dX6_synopsis_45 : decode cX6_synopsis 45 = .ok (.iinc 2 1, 3) := by decide +kernel
theorem dX6_synopsis_48 : decode cX6_synopsis 48 = .ok (.iinc 3 1, 3) := by decide +kernel
theorem dX6_synopsis_51 : decode cX6_synopsis 51 = .ok (.goto (-43), 3) := by decide +kernel
theorem dX6_synopsis_54 : decode cX6_synopsis 54 = .ok (.iload_n 2, 1) := by decide +kernel
theorem dX6_synopsis_55 : decode cX6_synopsis 55 = .ok (.ireturn, 1) := by decide +kernel
theorem dX6_requireArticle_0 : decode cX6_requireArticle 0 = .ok (.iload_n 1, 1) := by decide +kernel
theorem dX6_requireArticle_1 : decode cX6_requireArticle 1 = .ok (.ifCond .lt 11, 3) := by decide +kernel
theorem dX6_requireArticle_4 : decode cX6_requireArticle 4 = .ok (.iload_n 1, 1) := by decide +kernel
theorem dX6_requireArticle_5 : decode cX6_requireArticle 5 = .ok (.aload_n 0, 1) := by decide +kernel
theorem dX6_requireArticle_6 : decode cX6_requireArticle 6 = .ok (.getfield 89, 3) := by decide +kernel
theorem dX6_requireArticle_9 : decode cX6_requireArticle 9 = .ok (.if_icmp .lt 14, 3) := by decide +kernel
theorem dX6_requireArticle_12 : decode cX6_requireArticle 12 = .ok (.new 246, 3) := by decide +kernel
theorem dX6_requireArticle_15 : decode cX6_requireArticle 15 = .ok (.dup, 1) := by decide +kernel
theorem dX6_requireArticle_16 : decode cX6_requireArticle 16 = .ok (.ldc_w 302, 3) := by decide +kernel
theorem dX6_requireArticle_19 : decode cX6_requireArticle 19 = .ok (.invokespecial 250, 3) := by decide +kernel
theorem dX6_requireArticle_22 : decode cX6_requireArticle 22 = .ok (.athrow, 1) := by decide +kernel
theorem dX6_requireArticle_23 : decode cX6_requireArticle 23 = .ok (.return_, 1) := by decide +kernel
theorem dX6_requireVolume_0 : decode cX6_requireVolume 0 = .ok (.iload_n 1, 1) := by decide +kernel
theorem dX6_requireVolume_1 : decode cX6_requireVolume 1 = .ok (.ifCond .lt 11, 3) := by decide +kernel
theorem dX6_requireVolume_4 : decode cX6_requireVolume 4 = .ok (.iload_n 1, 1) := by decide +kernel
theorem dX6_requireVolume_5 : decode cX6_requireVolume 5 = .ok (.aload_n 0, 1) := by decide +kernel
theorem dX6_requireVolume_6 : decode cX6_requireVolume 6 = .ok (.getfield 150, 3) := by decide +kernel
theorem dX6_requireVolume_9 : decode cX6_requireVolume 9 = .ok (.if_icmp .lt 14, 3) := by decide +kernel
theorem dX6_requireVolume_12 : decode cX6_requireVolume 12 = .ok (.new 246, 3) := by decide +kernel
theorem dX6_requireVolume_15 : decode cX6_requireVolume 15 = .ok (.dup, 1) := by decide +kernel
theorem dX6_requireVolume_16 : decode cX6_requireVolume 16 = .ok (.ldc_w 304, 3) := by decide +kernel
theorem dX6_requireVolume_19 : decode cX6_requireVolume 19 = .ok (.invokespecial 250, 3) := by decide +kernel
theorem dX6_requireVolume_22 : decode cX6_requireVolume 22 = .ok (.athrow, 1) := by decide +kernel
theorem dX6_requireVolume_23 : decode cX6_requireVolume 23 = .ok (.return_, 1) := by decide +kernel
theorem dX6_requireContributor_0 : decode cX6_requireContributor 0 = .ok (.iload_n 1, 1) := by decide +kernel
theorem dX6_requireContributor_1 : decode cX6_requireContributor 1 = .ok (.ifCond .lt 11, 3) := by decide +kernel
theorem dX6_requireContributor_4 : decode cX6_requireContributor 4 = .ok (.iload_n 1, 1) := by decide +kernel
theorem dX6_requireContributor_5 : decode cX6_requireContributor 5 = .ok (.aload_n 0, 1) := by decide +kernel
theorem dX6_requireContributor_6 : decode cX6_requireContributor 6 = .ok (.getfield 166, 3) := by decide +kernel
theorem dX6_requireContributor_9 : decode cX6_requireContributor 9 = .ok (.if_icmp .lt 14, 3) := by decide +kernel
theorem dX6_requireContributor_12 : decode cX6_requireContributor 12 = .ok (.new 246, 3) := by decide +kernel
theorem dX6_requireContributor_15 : decode cX6_requireContributor 15 = .ok (.dup, 1) := by decide +kernel
theorem dX6_requireContributor_16 : decode cX6_requireContributor 16 = .ok (.ldc_w 306, 3) := by decide +kernel
theorem dX6_requireContributor_19 : decode cX6_requireContributor 19 = .ok (.invokespecial 250, 3) := by decide +kernel
theorem dX6_requireContributor_22 : decode cX6_requireContributor 22 = .ok (.athrow, 1) := by decide +kernel
theorem dX6_requireContributor_23 : decode cX6_requireContributor 23 = .ok (.return_, 1) := by decide +kernel
theorem dX6_requireSubject_0 : decode cX6_requireSubject 0 = .ok (.iload_n 0, 1) := by decide +kernel
theorem dX6_requireSubject_1 : decode cX6_requireSubject 1 = .ok (.ifCond .lt 9, 3) := by decide +kernel
theorem dX6_requireSubject_4 : decode cX6_requireSubject 4 = .ok (.iload_n 0, 1) := by decide +kernel
theorem dX6_requireSubject_5 : decode cX6_requireSubject 5 = .ok (.bipush 10, 2) := by decide +kernel
theorem dX6_requireSubject_7 : decode cX6_requireSubject 7 = .ok (.if_icmp .lt 14, 3) := by decide +kernel
theorem dX6_requireSubject_10 : decode cX6_requireSubject 10 = .ok (.new 246, 3) := by decide +kernel
theorem dX6_requireSubject_13 : decode cX6_requireSubject 13 = .ok (.dup, 1) := by decide +kernel
theorem dX6_requireSubject_14 : decode cX6_requireSubject 14 = .ok (.ldc_w 308, 3) := by decide +kernel
theorem dX6_requireSubject_17 : decode cX6_requireSubject 17 = .ok (.invokespecial 250, 3) := by decide +kernel
theorem dX6_requireSubject_20 : decode cX6_requireSubject 20 = .ok (.athrow, 1) := by decide +kernel
theorem dX6_requireSubject_21 : decode cX6_requireSubject 21 = .ok (.return_, 1) := by decide +kernel
theorem dX6_requireFact_0 : decode cX6_requireFact 0 = .ok (.iload_n 0, 1) := by decide +kernel
theorem dX6_requireFact_1 : decode cX6_requireFact 1 = .ok (.ifCond .lt 9, 3) := by decide +kernel
theorem dX6_requireFact_4 : decode cX6_requireFact 4 = .ok (.iload_n 0, 1) := by decide +kernel
theorem dX6_requireFact_5 : decode cX6_requireFact 5 = .ok (.bipush 8, 2) := by decide +kernel
theorem dX6_requireFact_7 : decode cX6_requireFact 7 = .ok (.if_icmp .lt 14, 3) := by decide +kernel
theorem dX6_requireFact_10 : decode cX6_requireFact 10 = .ok (.new 246, 3) := by decide +kernel
theorem dX6_requireFact_13 : decode cX6_requireFact 13 = .ok (.dup, 1) := by decide +kernel
theorem dX6_requireFact_14 : decode cX6_requireFact 14 = .ok (.ldc_w 310, 3) := by decide +kernel
theorem dX6_requireFact_17 : decode cX6_requireFact 17 = .ok (.invokespecial 250, 3) := by decide +kernel
theorem dX6_requireFact_20 : decode cX6_requireFact 20 = .ok (.athrow, 1) := by decide +kernel
theorem dX6_requireFact_21 : decode cX6_requireFact 21 = .ok (.return_, 1) := by decide +kernel
theorem dX6_isLetter_0 : decode cX6_isLetter 0 = .ok (.iload_n 0, 1) := by decide +kernel
theorem dX6_isLetter_1 : decode cX6_isLetter 1 = .ok (.bipush 97, 2) := by decide +kernel
theorem dX6_isLetter_3 : decode cX6_isLetter 3 = .ok (.if_icmp .lt 13, 3) := by decide +kernel
theorem dX6_isLetter_6 : decode cX6_isLetter 6 = .ok (.iload_n 0, 1) := by decide +kernel
theorem dX6_isLetter_7 : decode cX6_isLetter 7 = .ok (.bipush 122, 2) := by decide +kernel
theorem dX6_isLetter_9 : decode cX6_isLetter 9 = .ok (.if_icmp .gt 7, 3) := by decide +kernel
theorem dX6_isLetter_12 : decode cX6_isLetter 12 = .ok (.iconst 1, 1) := by decide +kernel
theorem dX6_isLetter_13 : decode cX6_isLetter 13 = .ok (.goto 4, 3) := by decide +kernel
theorem dX6_isLetter_16 : decode cX6_isLetter 16 = .ok (.iconst 0, 1) := by decide +kernel
theorem dX6_isLetter_17 : decode cX6_isLetter 17 = .ok (.ireturn, 1) := by decide +kernel
theorem dX6_isGap_0 : decode cX6_isGap 0 = .ok (.iload_n 0, 1) := by decide +kernel
theorem dX6_isGap_1 : decode cX6_isGap 1 = .ok (.bipush 32, 2) := by decide +kernel
theorem dX6_isGap_3 : decode cX6_isGap 3 = .ok (.if_icmp .eq 9, 3) := by decide +kernel
theorem dX6_isGap_6 : decode cX6_isGap 6 = .ok (.iload_n 0, 1) := by decide +kernel
theorem dX6_isGap_7 : decode cX6_isGap 7 = .ok (.bipush 45, 2) := by decide +kernel
theorem dX6_isGap_9 : decode cX6_isGap 9 = .ok (.if_icmp .ne 7, 3) := by decide +kernel
theorem dX6_isGap_12 : decode cX6_isGap 12 = .ok (.iconst 1, 1) := by decide +kernel
theorem dX6_isGap_13 : decode cX6_isGap 13 = .ok (.goto 4, 3) := by decide +kernel
theorem dX6_isGap_16 : decode cX6_isGap 16 = .ok (.iconst 0, 1) := by decide +kernel
theorem dX6_isGap_17 : decode cX6_isGap 17 = .ok (.ireturn, 1) := by decide +kernel
theorem dX6_areAlike_0 : decode cX6_areAlike 0 = .ok (.aload_n 1, 1) := by decide +kernel
theorem dX6_areAlike_1 : decode cX6_areAlike 1 = .ok (.aload_n 0, 1) := by decide +kernel
theorem dX6_areAlike_2 : decode cX6_areAlike 2 = .ok (.getfield 79, 3) := by decide +kernel
theorem dX6_areAlike_5 : decode cX6_areAlike 5 = .ok (.aload_n 2, 1) := by decide +kernel
theorem dX6_areAlike_6 : decode cX6_areAlike 6 = .ok (.invokevirtual 312, 3) := by decide +kernel
theorem dX6_areAlike_9 : decode cX6_areAlike 9 = .ok (.ifCond .ne 7, 3) := by decide +kernel
theorem dX6_areAlike_12 : decode cX6_areAlike 12 = .ok (.iconst 1, 1) := by decide +kernel
theorem dX6_areAlike_13 : decode cX6_areAlike 13 = .ok (.goto 4, 3) := by decide +kernel
theorem dX6_areAlike_16 : decode cX6_areAlike 16 = .ok (.iconst 0, 1) := by decide +kernel
theorem dX6_areAlike_17 : decode cX6_areAlike 17 = .ok (.ireturn, 1) := by decide +kernel
theorem dX6_comesAhead_0 : decode cX6_comesAhead 0 = .ok (.aload_n 0, 1) := by decide +kernel
theorem dX6_comesAhead_1 : decode cX6_comesAhead 1 = .ok (.getfield 18, 3) := by decide +kernel
theorem dX6_comesAhead_4 : decode cX6_comesAhead 4 = .ok (.iload_n 1, 1) := by decide +kernel
theorem dX6_comesAhead_5 : decode cX6_comesAhead 5 = .ok (.aaload, 1) := by decide +kernel
theorem dX6_comesAhead_6 : decode cX6_comesAhead 6 = .ok (.getfield 104, 3) := by decide +kernel
theorem dX6_comesAhead_9 : decode cX6_comesAhead 9 = .ok (.aload_n 0, 1) := by decide +kernel
theorem dX6_comesAhead_10 : decode cX6_comesAhead 10 = .ok (.getfield 79, 3) := by decide +kernel
theorem dX6_comesAhead_13 : decode cX6_comesAhead 13 = .ok (.aload_n 0, 1) := by decide +kernel
theorem dX6_comesAhead_14 : decode cX6_comesAhead 14 = .ok (.getfield 18, 3) := by decide +kernel
theorem dX6_comesAhead_17 : decode cX6_comesAhead 17 = .ok (.iload_n 2, 1) := by decide +kernel
theorem dX6_comesAhead_18 : decode cX6_comesAhead 18 = .ok (.aaload, 1) := by decide +kernel
theorem dX6_comesAhead_19 : decode cX6_comesAhead 19 = .ok (.getfield 104, 3) := by decide +kernel
theorem dX6_comesAhead_22 : decode cX6_comesAhead 22 = .ok (.invokevirtual 312, 3) := by decide +kernel
theorem dX6_comesAhead_25 : decode cX6_comesAhead 25 = .ok (.istore_n 3, 1) := by decide +kernel
theorem dX6_comesAhead_26 : decode cX6_comesAhead 26 = .ok (.iload_n 3, 1) := by decide +kernel
theorem dX6_comesAhead_27 : decode cX6_comesAhead 27 = .ok (.ifCond .lt 12, 3) := by decide +kernel
theorem dX6_comesAhead_30 : decode cX6_comesAhead 30 = .ok (.iload_n 3, 1) := by decide +kernel
theorem dX6_comesAhead_31 : decode cX6_comesAhead 31 = .ok (.ifCond .ne 12, 3) := by decide +kernel
theorem dX6_comesAhead_34 : decode cX6_comesAhead 34 = .ok (.iload_n 1, 1) := by decide +kernel
theorem dX6_comesAhead_35 : decode cX6_comesAhead 35 = .ok (.iload_n 2, 1) := by decide +kernel
theorem dX6_comesAhead_36 : decode cX6_comesAhead 36 = .ok (.if_icmp .ge 7, 3) := by decide +kernel
theorem dX6_comesAhead_39 : decode cX6_comesAhead 39 = .ok (.iconst 1, 1) := by decide +kernel
theorem dX6_comesAhead_40 : decode cX6_comesAhead 40 = .ok (.goto 4, 3) := by decide +kernel
theorem dX6_comesAhead_43 : decode cX6_comesAhead 43 = .ok (.iconst 0, 1) := by decide +kernel
theorem dX6_comesAhead_44 : decode cX6_comesAhead 44 = .ok (.ireturn, 1) := by decide +kernel
theorem dX6_placeOf_0 : decode cX6_placeOf 0 = .ok (.iconst 0, 1) := by decide +kernel
theorem dX6_placeOf_1 : decode cX6_placeOf 1 = .ok (.istore_n 2, 1) := by decide +kernel
theorem dX6_placeOf_2 : decode cX6_placeOf 2 = .ok (.iconst 0, 1) := by decide +kernel
theorem dX6_placeOf_3 : decode cX6_placeOf 3 = .ok (.istore_n 3, 1) := by decide +kernel
theorem dX6_placeOf_4 : decode cX6_placeOf 4 = .ok (.iload_n 3, 1) := by decide +kernel
theorem dX6_placeOf_5 : decode cX6_placeOf 5 = .ok (.aload_n 0, 1) := by decide +kernel
theorem dX6_placeOf_6 : decode cX6_placeOf 6 = .ok (.getfield 89, 3) := by decide +kernel
theorem dX6_placeOf_9 : decode cX6_placeOf 9 = .ok (.if_icmp .ge 21, 3) := by decide +kernel
theorem dX6_placeOf_12 : decode cX6_placeOf 12 = .ok (.aload_n 0, 1) := by decide +kernel
theorem dX6_placeOf_13 : decode cX6_placeOf 13 = .ok (.iload_n 3, 1) := by decide +kernel
theorem dX6_placeOf_14 : decode cX6_placeOf 14 = .ok (.iload_n 1, 1) := by decide +kernel
theorem dX6_placeOf_15 : decode cX6_placeOf 15 = .ok (.invokevirtual 316, 3) := by decide +kernel
theorem dX6_placeOf_18 : decode cX6_placeOf 18 = .ok (.ifCond .eq 6, 3) := by decide +kernel
theorem dX6_placeOf_21 : decode cX6_placeOf 21 = .ok (.iinc 2 1, 3) := by decide +kernel
theorem dX6_placeOf_24 : decode cX6_placeOf 24 = .ok (.iinc 3 1, 3) := by decide +kernel
theorem dX6_placeOf_27 : decode cX6_placeOf 27 = .ok (.goto (-23), 3) := by decide +kernel
theorem dX6_placeOf_30 : decode cX6_placeOf 30 = .ok (.iload_n 2, 1) := by decide +kernel
theorem dX6_placeOf_31 : decode cX6_placeOf 31 = .ok (.ireturn, 1) := by decide +kernel
theorem dX6_volumeOf_0 : decode cX6_volumeOf 0 = .ok (.iconst 0, 1) := by decide +kernel
theorem dX6_volumeOf_1 : decode cX6_volumeOf 1 = .ok (.istore_n 2, 1) := by decide +kernel
theorem dX6_volumeOf_2 : decode cX6_volumeOf 2 = .ok (.iload_n 2, 1) := by decide +kernel
theorem dX6_volumeOf_3 : decode cX6_volumeOf 3 = .ok (.aload_n 0, 1) := by decide +kernel
theorem dX6_volumeOf_4 : decode cX6_volumeOf 4 = .ok (.getfield 150, 3) := by decide +kernel
theorem dX6_volumeOf_7 : decode cX6_volumeOf 7 = .ok (.if_icmp .ge 27, 3) := by decide +kernel
theorem dX6_volumeOf_10 : decode cX6_volumeOf 10 = .ok (.aload_n 0, 1) := by decide +kernel
theorem dX6_volumeOf_11 : decode cX6_volumeOf 11 = .ok (.getfield 24, 3) := by decide +kernel
theorem dX6_volumeOf_14 : decode cX6_volumeOf 14 = .ok (.iload_n 2, 1) := by decide +kernel
theorem dX6_volumeOf_15 : decode cX6_volumeOf 15 = .ok (.aaload, 1) := by decide +kernel
theorem dX6_volumeOf_16 : decode cX6_volumeOf 16 = .ok (.getfield 153, 3) := by decide +kernel
theorem dX6_volumeOf_19 : decode cX6_volumeOf 19 = .ok (.aload_n 1, 1) := by decide +kernel
theorem dX6_volumeOf_20 : decode cX6_volumeOf 20 = .ok (.invokevirtual 319, 3) := by decide +kernel
theorem dX6_volumeOf_23 : decode cX6_volumeOf 23 = .ok (.if_icmp .lt 5, 3) := by decide +kernel
theorem dX6_volumeOf_26 : decode cX6_volumeOf 26 = .ok (.iload_n 2, 1) := by decide +kernel
theorem dX6_volumeOf_27 : decode cX6_volumeOf 27 = .ok (.ireturn, 1) := by decide +kernel
theorem dX6_volumeOf_28 : decode cX6_volumeOf 28 = .ok (.iinc 2 1, 3) := by decide +kernel
theorem dX6_volumeOf_31 : decode cX6_volumeOf 31 = .ok (.goto (-29), 3) := by decide +kernel
theorem dX6_volumeOf_34 : decode cX6_volumeOf 34 = .ok (.iconst (-1), 1) := by decide +kernel
theorem dX6_volumeOf_35 : decode cX6_volumeOf 35 = .ok (.ireturn, 1) := by decide +kernel
theorem dX6_isOfPrintedVolume_0 : decode cX6_isOfPrintedVolume 0 = .ok (.aload_n 0, 1) := by decide +kernel
theorem dX6_isOfPrintedVolume_1 : decode cX6_isOfPrintedVolume 1 = .ok (.aload_n 1, 1) := by decide +kernel
theorem dX6_isOfPrintedVolume_2 : decode cX6_isOfPrintedVolume 2 = .ok (.invokevirtual 259, 3) := by decide +kernel
theorem dX6_isOfPrintedVolume_5 : decode cX6_isOfPrintedVolume 5 = .ok (.istore_n 2, 1) := by decide +kernel
theorem dX6_isOfPrintedVolume_6 : decode cX6_isOfPrintedVolume 6 = .ok (.iload_n 2, 1) := by decide +kernel
theorem dX6_isOfPrintedVolume_7 : decode cX6_isOfPrintedVolume 7 = .ok (.iconst (-1), 1) := by decide +kernel
theorem dX6_isOfPrintedVolume_8 : decode cX6_isOfPrintedVolume 8 = .ok (.if_icmp .eq 15, 3) := by decide +kernel
theorem dX6_isOfPrintedVolume_11 : decode cX6_isOfPrintedVolume 11 = .ok (.iload_n 2, 1) := by decide +kernel
theorem dX6_isOfPrintedVolume_12 : decode cX6_isOfPrintedVolume 12 = .ok (.aload_n 0, 1) := by decide +kernel
theorem dX6_isOfPrintedVolume_13 : decode cX6_isOfPrintedVolume 13 = .ok (.getfield 74, 3) := by decide +kernel
theorem dX6_isOfPrintedVolume_16 : decode cX6_isOfPrintedVolume 16 = .ok (.if_icmp .ge 7, 3) := by decide +kernel
theorem dX6_isOfPrintedVolume_19 : decode cX6_isOfPrintedVolume 19 = .ok (.iconst 1, 1) := by decide +kernel
theorem dX6_isOfPrintedVolume_20 : decode cX6_isOfPrintedVolume 20 = .ok (.goto 4, 3) := by decide +kernel
theorem dX6_isOfPrintedVolume_23 : decode cX6_isOfPrintedVolume 23 = .ok (.iconst 0, 1) := by decide +kernel
theorem dX6_isOfPrintedVolume_24 : decode cX6_isOfPrintedVolume 24 = .ok (.ireturn, 1) := by decide +kernel
theorem dX6_columnsOf_0 : decode cX6_columnsOf 0 = .ok (.aload_n 0, 1) := by decide +kernel
theorem dX6_columnsOf_1 : decode cX6_columnsOf 1 = .ok (.aload_n 0, 1) := by decide +kernel
theorem dX6_columnsOf_2 : decode cX6_columnsOf 2 = .ok (.getfield 18, 3) := by decide +kernel
theorem dX6_columnsOf_5 : decode cX6_columnsOf 5 = .ok (.iload_n 1, 1) := by decide +kernel
theorem dX6_columnsOf_6 : decode cX6_columnsOf 6 = .ok (.aaload, 1) := by decide +kernel
theorem dX6_columnsOf_7 : decode cX6_columnsOf 7 = .ok (.getfield 104, 3) := by decide +kernel
theorem dX6_columnsOf_10 : decode cX6_columnsOf 10 = .ok (.invokevirtual 259, 3) := by decide +kernel
theorem dX6_columnsOf_13 : decode cX6_columnsOf 13 = .ok (.istore_n 2, 1) := by decide +kernel
theorem dX6_columnsOf_14 : decode cX6_columnsOf 14 = .ok (.iload_n 2, 1) := by decide +kernel
theorem dX6_columnsOf_15 : decode cX6_columnsOf 15 = .ok (.iconst (-1), 1) := by decide +kernel
theorem dX6_columnsOf_16 : decode cX6_columnsOf 16 = .ok (.if_icmp .ne 5, 3) := by decide +kernel
theorem dX6_columnsOf_19 : decode cX6_columnsOf 19 = .ok (.iconst 0, 1) := by decide +kernel
theorem dX6_columnsOf_20 : decode cX6_columnsOf 20 = .ok (.ireturn, 1) := by decide +kernel
theorem dX6_columnsOf_21 : decode cX6_columnsOf 21 = .ok (.aload_n 0, 1) := by decide +kernel
theorem dX6_columnsOf_22 : decode cX6_columnsOf 22 = .ok (.iload_n 2, 1) := by decide +kernel
theorem dX6_columnsOf_23 : decode cX6_columnsOf 23 = .ok (.invokevirtual 323, 3) := by decide +kernel
theorem dX6_columnsOf_26 : decode cX6_columnsOf 26 = .ok (.istore_n 3, 1) := by decide +kernel
theorem dX6_columnsOf_27 : decode cX6_columnsOf 27 = .ok (.iload_n 3, 1) := by decide +kernel
theorem dX6_columnsOf_28 : decode cX6_columnsOf 28 = .ok (.ifCond .ne 5, 3) := by decide +kernel
theorem dX6_columnsOf_31 : decode cX6_columnsOf 31 = .ok (.iconst 0, 1) := by decide +kernel
theorem dX6_columnsOf_32 : decode cX6_columnsOf 32 = .ok (.ireturn, 1) := by decide +kernel
theorem dX6_columnsOf_33 : decode cX6_columnsOf 33 = .ok (.aload_n 0, 1) := by decide +kernel
theorem dX6_columnsOf_34 : decode cX6_columnsOf 34 = .ok (.getfield 24, 3) := by decide +kernel
theorem dX6_columnsOf_37 : decode cX6_columnsOf 37 = .ok (.iload_n 2, 1) := by decide +kernel
theorem dX6_columnsOf_38 : decode cX6_columnsOf 38 = .ok (.aaload, 1) := by decide +kernel
theorem dX6_columnsOf_39 : decode cX6_columnsOf 39 = .ok (.getfield 161, 3) := by decide +kernel
theorem dX6_columnsOf_42 : decode cX6_columnsOf 42 = .ok (.istore 4, 2) := by decide +kernel
theorem dX6_columnsOf_44 : decode cX6_columnsOf 44 = .ok (.iload 4, 2) := by decide +kernel
theorem dX6_columnsOf_46 : decode cX6_columnsOf 46 = .ok (.aload_n 0, 1) := by decide +kernel
theorem dX6_columnsOf_47 : decode cX6_columnsOf 47 = .ok (.getfield 18, 3) := by decide +kernel
theorem dX6_columnsOf_50 : decode cX6_columnsOf 50 = .ok (.iload_n 1, 1) := by decide +kernel
theorem dX6_columnsOf_51 : decode cX6_columnsOf 51 = .ok (.aaload, 1) := by decide +kernel
theorem dX6_columnsOf_52 : decode cX6_columnsOf 52 = .ok (.getfield 101, 3) := by decide +kernel
theorem dX6_columnsOf_55 : decode cX6_columnsOf 55 = .ok (.imul, 1) := by decide +kernel
theorem dX6_columnsOf_56 : decode cX6_columnsOf 56 = .ok (.istore 5, 2) := by decide +kernel
theorem dX6_columnsOf_58 : decode cX6_columnsOf 58 = .ok (.iload 4, 2) := by decide +kernel
theorem dX6_columnsOf_60 : decode cX6_columnsOf 60 = .ok (.istore 6, 2) := by decide +kernel
theorem dX6_columnsOf_62 : decode cX6_columnsOf 62 = .ok (.iconst 0, 1) := by decide +kernel
theorem dX6_columnsOf_63 : decode cX6_columnsOf 63 = .ok (.istore 7, 2) := by decide +kernel
theorem dX6_columnsOf_65 : decode cX6_columnsOf 65 = .ok (.iconst 0, 1) := by decide +kernel
theorem dX6_columnsOf_66 : decode cX6_columnsOf 66 = .ok (.istore 8, 2) := by decide +kernel
theorem dX6_columnsOf_68 : decode cX6_columnsOf 68 = .ok (.iload 8, 2) := by decide +kernel
theorem dX6_columnsOf_70 : decode cX6_columnsOf 70 = .ok (.aload_n 0, 1) := by decide +kernel
theorem dX6_columnsOf_71 : decode cX6_columnsOf 71 = .ok (.getfield 89, 3) := by decide +kernel
theorem dX6_columnsOf_74 : decode cX6_columnsOf 74 = .ok (.if_icmp .ge 85, 3) := by decide +kernel
theorem dX6_columnsOf_77 : decode cX6_columnsOf 77 = .ok (.aload_n 0, 1) := by decide +kernel
theorem dX6_columnsOf_78 : decode cX6_columnsOf 78 = .ok (.aload_n 0, 1) := by decide +kernel
theorem dX6_columnsOf_79 : decode cX6_columnsOf 79 = .ok (.getfield 18, 3) := by decide +kernel
theorem dX6_columnsOf_82 : decode cX6_columnsOf 82 = .ok (.iload 8, 2) := by decide +kernel
theorem dX6_columnsOf_84 : decode cX6_columnsOf 84 = .ok (.aaload, 1) := by decide +kernel
theorem dX6_columnsOf_85 : decode cX6_columnsOf 85 = .ok (.getfield 104, 3) := by decide +kernel
theorem dX6_columnsOf_88 : decode cX6_columnsOf 88 = .ok (.invokevirtual 259, 3) := by decide +kernel
theorem dX6_columnsOf_91 : decode cX6_columnsOf 91 = .ok (.iload_n 2, 1) := by decide +kernel
theorem dX6_columnsOf_92 : decode cX6_columnsOf 92 = .ok (.if_icmp .ne 61, 3) := by decide +kernel
theorem dX6_columnsOf_95 : decode cX6_columnsOf 95 = .ok (.iload 4, 2) := by decide +kernel
theorem dX6_columnsOf_97 : decode cX6_columnsOf 97 = .ok (.aload_n 0, 1) := by decide +kernel
theorem dX6_columnsOf_98 : decode cX6_columnsOf 98 = .ok (.getfield 18, 3) := by decide +kernel
theorem dX6_columnsOf_101 : decode cX6_columnsOf 101 = .ok (.iload 8, 2) := by decide +kernel
theorem dX6_columnsOf_103 : decode cX6_columnsOf 103 = .ok (.aaload, 1) := by decide +kernel
theorem dX6_columnsOf_104 : decode cX6_columnsOf 104 = .ok (.getfield 101, 3) := by decide +kernel
theorem dX6_columnsOf_107 : decode cX6_columnsOf 107 = .ok (.imul, 1) := by decide +kernel
theorem dX6_columnsOf_108 : decode cX6_columnsOf 108 = .ok (.istore 9, 2) := by decide +kernel
theorem dX6_columnsOf_110 : decode cX6_columnsOf 110 = .ok (.iload 6, 2) := by decide +kernel
theorem dX6_columnsOf_112 : decode cX6_columnsOf 112 = .ok (.iload 9, 2) := by decide +kernel
theorem dX6_columnsOf_114 : decode cX6_columnsOf 114 = .ok (.iload_n 3, 1) := by decide +kernel
theorem dX6_columnsOf_115 : decode cX6_columnsOf 115 = .ok (.idiv, 1) := by decide +kernel
theorem dX6_columnsOf_116 : decode cX6_columnsOf 116 = .ok (.isub, 1) := by decide +kernel
theorem dX6_columnsOf_117 : decode cX6_columnsOf 117 = .ok (.istore 6, 2) := by decide +kernel
theorem dX6_columnsOf_119 : decode cX6_columnsOf 119 = .ok (.iload 9, 2) := by decide +kernel
theorem dX6_columnsOf_121 : decode cX6_columnsOf 121 = .ok (.iload_n 3, 1) := by decide +kernel
theorem dX6_columnsOf_122 : decode cX6_columnsOf 122 = .ok (.irem, 1) := by decide +kernel
theorem dX6_columnsOf_123 : decode cX6_columnsOf 123 = .ok (.iload 5, 2) := by decide +kernel
theorem dX6_columnsOf_125 : decode cX6_columnsOf 125 = .ok (.iload_n 3, 1) := by decide +kernel
theorem dX6_columnsOf_126 : decode cX6_columnsOf 126 = .ok (.irem, 1) := by decide +kernel
theorem dX6_columnsOf_127 : decode cX6_columnsOf 127 = .ok (.isub, 1) := by decide +kernel
theorem dX6_columnsOf_128 : decode cX6_columnsOf 128 = .ok (.istore 10, 2) := by decide +kernel
theorem dX6_columnsOf_130 : decode cX6_columnsOf 130 = .ok (.iload 10, 2) := by decide +kernel
theorem dX6_columnsOf_132 : decode cX6_columnsOf 132 = .ok (.ifCond .gt 18, 3) := by decide +kernel
theorem dX6_columnsOf_135 : decode cX6_columnsOf 135 = .ok (.iload 10, 2) := by decide +kernel
theorem dX6_columnsOf_137 : decode cX6_columnsOf 137 = .ok (.ifCond .ne 16, 3) := by decide +kernel
theorem dX6_columnsOf_140 : decode cX6_columnsOf 140 = .ok (.aload_n 0, 1) := by decide +kernel
theorem dX6_columnsOf_141 : decode cX6_columnsOf 141 = .ok (.iload 8, 2) := by decide +kernel
theorem dX6_columnsOf_143 : decode cX6_columnsOf 143 = .ok (.iload_n 1, 1) := by decide +kernel
theorem dX6_columnsOf_144 : decode cX6_columnsOf 144 = .ok (.invokevirtual 316, 3) := by decide +kernel
theorem dX6_columnsOf_147 : decode cX6_columnsOf 147 = .ok (.ifCond .eq 6, 3) := by decide +kernel
theorem dX6_columnsOf_150 : decode cX6_columnsOf 150 = .ok (.iinc 7 1, 3) := by decide +kernel
theorem dX6_columnsOf_153 : decode cX6_columnsOf 153 = .ok (.iinc 8 1, 3) := by decide +kernel
theorem dX6_columnsOf_156 : decode cX6_columnsOf 156 = .ok (.goto (-88), 3) := by decide +kernel
theorem dX6_columnsOf_159 : decode cX6_columnsOf 159 = .ok (.iload 5, 2) := by decide +kernel
theorem dX6_columnsOf_161 : decode cX6_columnsOf 161 = .ok (.iload_n 3, 1) := by decide +kernel
theorem dX6_columnsOf_162 : decode cX6_columnsOf 162 = .ok (.idiv, 1) := by decide +kernel
theorem dX6_columnsOf_163 : decode cX6_columnsOf 163 = .ok (.iload 7, 2) := by decide +kernel
theorem dX6_columnsOf_165 : decode cX6_columnsOf 165 = .ok (.iload 6, 2) := by decide +kernel
theorem dX6_columnsOf_167 : decode cX6_columnsOf 167 = .ok (.if_icmp .ge 7, 3) := by decide +kernel
theorem dX6_columnsOf_170 : decode cX6_columnsOf 170 = .ok (.iconst 1, 1) := by decide +kernel
theorem dX6_columnsOf_171 : decode cX6_columnsOf 171 = .ok (.goto 4, 3) := by decide +kernel
theorem dX6_columnsOf_174 : decode cX6_columnsOf 174 = .ok (.iconst 0, 1) := by decide +kernel
theorem dX6_columnsOf_175 : decode cX6_columnsOf 175 = .ok (.iadd, 1) := by decide +kernel
theorem dX6_columnsOf_176 : decode cX6_columnsOf 176 = .ok (.ireturn, 1) := by decide +kernel
theorem dX6_worthsIn_0 : decode cX6_worthsIn 0 = .ok (.iconst 0, 1) := by decide +kernel
theorem dX6_worthsIn_1 : decode cX6_worthsIn 1 = .ok (.istore_n 2, 1) := by decide +kernel
theorem dX6_worthsIn_2 : decode cX6_worthsIn 2 = .ok (.iconst 0, 1) := by decide +kernel
theorem dX6_worthsIn_3 : decode cX6_worthsIn 3 = .ok (.istore_n 3, 1) := by decide +kernel
theorem dX6_worthsIn_4 : decode cX6_worthsIn 4 = .ok (.iload_n 3, 1) := by decide +kernel
theorem dX6_worthsIn_5 : decode cX6_worthsIn 5 = .ok (.aload_n 0, 1) := by decide +kernel
theorem dX6_worthsIn_6 : decode cX6_worthsIn 6 = .ok (.getfield 89, 3) := by decide +kernel
theorem dX6_worthsIn_9 : decode cX6_worthsIn 9 = .ok (.if_icmp .ge 38, 3) := by decide +kernel
theorem dX6_worthsIn_12 : decode cX6_worthsIn 12 = .ok (.aload_n 0, 1) := by decide +kernel
theorem dX6_worthsIn_13 : decode cX6_worthsIn 13 = .ok (.aload_n 0, 1) := by decide +kernel
theorem dX6_worthsIn_14 : decode cX6_worthsIn 14 = .ok (.getfield 18, 3) := by decide +kernel
theorem dX6_worthsIn_17 : decode cX6_worthsIn 17 = .ok (.iload_n 3, 1) := by decide +kernel
theorem dX6_worthsIn_18 : decode cX6_worthsIn 18 = .ok (.aaload, 1) := by decide +kernel
theorem dX6_worthsIn_19 : decode cX6_worthsIn 19 = .ok (.getfield 104, 3) := by decide +kernel
theorem dX6_worthsIn_22 : decode cX6_worthsIn 22 = .ok (.invokevirtual 259, 3) := by decide +kernel
theorem dX6_worthsIn_25 : decode cX6_worthsIn 25 = .ok (.iload_n 1, 1) := by decide +kernel
theorem dX6_worthsIn_26 : decode cX6_worthsIn 26 = .ok (.if_icmp .ne 15, 3) := by decide +kernel
theorem dX6_worthsIn_29 : decode cX6_worthsIn 29 = .ok (.iload_n 2, 1) := by decide +kernel
theorem dX6_worthsIn_30 : decode cX6_worthsIn 30 = .ok (.aload_n 0, 1) := by decide +kernel
theorem dX6_worthsIn_31 : decode cX6_worthsIn 31 = .ok (.getfield 18, 3) := by decide +kernel
theorem dX6_worthsIn_34 : decode cX6_worthsIn 34 = .ok (.iload_n 3, 1) := by decide +kernel
theorem dX6_worthsIn_35 : decode cX6_worthsIn 35 = .ok (.aaload, 1) := by decide +kernel
theorem dX6_worthsIn_36 : decode cX6_worthsIn 36 = .ok (.getfield 101, 3) := by decide +kernel
theorem dX6_worthsIn_39 : decode cX6_worthsIn 39 = .ok (.iadd, 1) := by decide +kernel
theorem dX6_worthsIn_40 : decode cX6_worthsIn 40 = .ok (.istore_n 2, 1) := by decide +kernel
theorem dX6_worthsIn_41 : decode cX6_worthsIn 41 = .ok (.iinc 3 1, 3) := by decide +kernel
theorem dX6_worthsIn_44 : decode cX6_worthsIn 44 = .ok (.goto (-40), 3) := by decide +kernel
theorem dX6_worthsIn_47 : decode cX6_worthsIn 47 = .ok (.iload_n 2, 1) := by decide +kernel
theorem dX6_worthsIn_48 : decode cX6_worthsIn 48 = .ok (.ireturn, 1) := by decide +kernel
theorem dX6_isToBeGiven_0 : decode cX6_isToBeGiven 0 = .ok (.aload_n 1, 1) := by decide +kernel
theorem dX6_isToBeGiven_1 : decode cX6_isToBeGiven 1 = .ok (.invokevirtual 134, 3) := by decide +kernel
theorem dX6_isToBeGiven_4 : decode cX6_isToBeGiven 4 = .ok (.ifCond .ne 38, 3) := by decide +kernel
theorem dX6_isToBeGiven_7 : decode cX6_isToBeGiven 7 = .ok (.aload_n 1, 1) := by decide +kernel
theorem dX6_isToBeGiven_8 : decode cX6_isToBeGiven 8 = .ok (.getfield 195, 3) := by decide +kernel
theorem dX6_isToBeGiven_11 : decode cX6_isToBeGiven 11 = .ok (.iconst (-1), 1) := by decide +kernel
theorem dX6_isToBeGiven_12 : decode cX6_isToBeGiven 12 = .ok (.if_icmp .ne 30, 3) := by decide +kernel
theorem dX6_isToBeGiven_15 : decode cX6_isToBeGiven 15 = .ok (.aload_n 0, 1) := by decide +kernel
theorem dX6_isToBeGiven_16 : decode cX6_isToBeGiven 16 = .ok (.aload_n 1, 1) := by decide +kernel
theorem dX6_isToBeGiven_17 : decode cX6_isToBeGiven 17 = .ok (.getfield 104, 3) := by decide +kernel
theorem dX6_isToBeGiven_20 : decode cX6_isToBeGiven 20 = .ok (.invokevirtual 259, 3) := by decide +kernel
theorem dX6_isToBeGiven_23 : decode cX6_isToBeGiven 23 = .ok (.iconst (-1), 1) := by decide +kernel
theorem dX6_isToBeGiven_24 : decode cX6_isToBeGiven 24 = .ok (.if_icmp .eq 18, 3) := by decide +kernel
theorem dX6_isToBeGiven_27 : decode cX6_isToBeGiven 27 = .ok (.aload_n 0, 1) := by decide +kernel
theorem dX6_isToBeGiven_28 : decode cX6_isToBeGiven 28 = .ok (.aload_n 1, 1) := by decide +kernel
theorem dX6_isToBeGiven_29 : decode cX6_isToBeGiven 29 = .ok (.getfield 104, 3) := by decide +kernel
theorem dX6_isToBeGiven_32 : decode cX6_isToBeGiven 32 = .ok (.invokevirtual 326, 3) := by decide +kernel
theorem dX6_isToBeGiven_35 : decode cX6_isToBeGiven 35 = .ok (.ifCond .ne 7, 3) := by decide +kernel
theorem dX6_isToBeGiven_38 : decode cX6_isToBeGiven 38 = .ok (.iconst 1, 1) := by decide +kernel
theorem dX6_isToBeGiven_39 : decode cX6_isToBeGiven 39 = .ok (.goto 4, 3) := by decide +kernel
theorem dX6_isToBeGiven_42 : decode cX6_isToBeGiven 42 = .ok (.iconst 0, 1) := by decide +kernel
theorem dX6_isToBeGiven_43 : decode cX6_isToBeGiven 43 = .ok (.ireturn, 1) := by decide +kernel
theorem dX6_isAmongEnemies_0 : decode cX6_isAmongEnemies 0 = .ok (.iconst 0, 1) := by decide +kernel
theorem dX6_isAmongEnemies_1 : decode cX6_isAmongEnemies 1 = .ok (.istore_n 3, 1) := by decide +kernel
theorem dX6_isAmongEnemies_2 : decode cX6_isAmongEnemies 2 = .ok (.iload_n 3, 1) := by decide +kernel
theorem dX6_isAmongEnemies_3 : decode cX6_isAmongEnemies 3 = .ok (.aload_n 0, 1) := by decide +kernel
theorem dX6_isAmongEnemies_4 : decode cX6_isAmongEnemies 4 = .ok (.getfield 89, 3) := by decide +kernel
theorem dX6_isAmongEnemies_7 : decode cX6_isAmongEnemies 7 = .ok (.if_icmp .ge 61, 3) := by decide +kernel
theorem dX6_isAmongEnemies_10 : decode cX6_isAmongEnemies 10 = .ok (.aload_n 0, 1) := by decide +kernel
theorem dX6_isAmongEnemies_11 : decode cX6_isAmongEnemies 11 = .ok (.getfield 18, 3) := by decide +kernel
theorem dX6_isAmongEnemies_14 : decode cX6_isAmongEnemies 14 = .ok (.iload_n 3, 1) := by decide +kernel
theorem dX6_isAmongEnemies_15 : decode cX6_isAmongEnemies 15 = .ok (.aaload, 1) := by decide +kernel
theorem dX6_isAmongEnemies_16 : decode cX6_isAmongEnemies 16 = .ok (.astore 4, 2) := by decide +kernel
theorem dX6_isAmongEnemies_18 : decode cX6_isAmongEnemies 18 = .ok (.aload 4, 2) := by decide +kernel
theorem dX6_isAmongEnemies_20 : decode cX6_isAmongEnemies 20 = .ok (.getfield 195, 3) := by decide +kernel
theorem dX6_isAmongEnemies_23 : decode cX6_isAmongEnemies 23 = .ok (.iconst (-1), 1) := by decide +kernel
theorem dX6_isAmongEnemies_24 : decode cX6_isAmongEnemies 24 = .ok (.if_icmp .eq 38, 3) := by decide +kernel
theorem dX6_isAmongEnemies_27 : decode cX6_isAmongEnemies 27 = .ok (.aload_n 2, 1) := by decide +kernel
theorem dX6_isAmongEnemies_28 : decode cX6_isAmongEnemies 28 = .ok (.getfield 179, 3) := by decide +kernel
theorem dX6_isAmongEnemies_31 : decode cX6_isAmongEnemies 31 = .ok (.aload 4, 2) := by decide +kernel
theorem dX6_isAmongEnemies_33 : decode cX6_isAmongEnemies 33 = .ok (.getfield 195, 3) := by decide +kernel
theorem dX6_isAmongEnemies_36 : decode cX6_isAmongEnemies 36 = .ok (.baload, 1) := by decide +kernel
theorem dX6_isAmongEnemies_37 : decode cX6_isAmongEnemies 37 = .ok (.ifCond .eq 25, 3) := by decide +kernel
theorem dX6_isAmongEnemies_40 : decode cX6_isAmongEnemies 40 = .ok (.aload_n 0, 1) := by decide +kernel
theorem dX6_isAmongEnemies_41 : decode cX6_isAmongEnemies 41 = .ok (.aload_n 1, 1) := by decide +kernel
theorem dX6_isAmongEnemies_42 : decode cX6_isAmongEnemies 42 = .ok (.aload 4, 2) := by decide +kernel
theorem dX6_isAmongEnemies_44 : decode cX6_isAmongEnemies 44 = .ok (.invokevirtual 330, 3) := by decide +kernel
theorem dX6_isAmongEnemies_47 : decode cX6_isAmongEnemies 47 = .ok (.ifCond .ne 13, 3) := by decide +kernel
theorem dX6_isAmongEnemies_50 : decode cX6_isAmongEnemies 50 = .ok (.aload_n 0, 1) := by decide +kernel
theorem dX6_isAmongEnemies_51 : decode cX6_isAmongEnemies 51 = .ok (.aload 4, 2) := by decide +kernel
theorem dX6_isAmongEnemies_53 : decode cX6_isAmongEnemies 53 = .ok (.aload_n 1, 1) := by decide +kernel
theorem dX6_isAmongEnemies_54 : decode cX6_isAmongEnemies 54 = .ok (.invokevirtual 330, 3) := by decide +kernel
theorem dX6_isAmongEnemies_57 : decode cX6_isAmongEnemies 57 = .ok (.ifCond .eq 5, 3) := by decide +kernel
theorem dX6_isAmongEnemies_60 : decode cX6_isAmongEnemies 60 = .ok (.iconst 1, 1) := by decide +kernel
theorem dX6_isAmongEnemies_61 : decode cX6_isAmongEnemies 61 = .ok (.ireturn, 1) := by decide +kernel
theorem dX6_isAmongEnemies_62 : decode cX6_isAmongEnemies 62 = .ok (.iinc 3 1, 3) := by decide +kernel
theorem dX6_isAmongEnemies_65 : decode cX6_isAmongEnemies 65 = .ok (.goto (-63), 3) := by decide +kernel
theorem dX6_isAmongEnemies_68 : decode cX6_isAmongEnemies 68 = .ok (.iconst 0, 1) := by decide +kernel
theorem dX6_isAmongEnemies_69 : decode cX6_isAmongEnemies 69 = .ok (.ireturn, 1) := by decide +kernel
theorem dX6_refersTo_0 : decode cX6_refersTo 0 = .ok (.iconst 0, 1) := by decide +kernel
theorem dX6_refersTo_1 : decode cX6_refersTo 1 = .ok (.istore_n 3, 1) := by decide +kernel
theorem dX6_refersTo_2 : decode cX6_refersTo 2 = .ok (.iload_n 3, 1) := by decide +kernel
theorem dX6_refersTo_3 : decode cX6_refersTo 3 = .ok (.aload_n 1, 1) := by decide +kernel
theorem dX6_refersTo_4 : decode cX6_refersTo 4 = .ok (.getfield 119, 3) := by decide +kernel
theorem dX6_refersTo_7 : decode cX6_refersTo 7 = .ok (.if_icmp .ge 31, 3) := by decide +kernel
theorem dX6_refersTo_10 : decode cX6_refersTo 10 = .ok (.aload_n 0, 1) := by decide +kernel
theorem dX6_refersTo_11 : decode cX6_refersTo 11 = .ok (.aload_n 1, 1) := by decide +kernel
theorem dX6_refersTo_12 : decode cX6_refersTo 12 = .ok (.getfield 124, 3) := by decide +kernel
theorem dX6_refersTo_15 : decode cX6_refersTo 15 = .ok (.iload_n 3, 1) := by decide +kernel
theorem dX6_refersTo_16 : decode cX6_refersTo 16 = .ok (.aaload, 1) := by decide +kernel
theorem dX6_refersTo_17 : decode cX6_refersTo 17 = .ok (.getfield 128, 3) := by decide +kernel
theorem dX6_refersTo_20 : decode cX6_refersTo 20 = .ok (.aload_n 2, 1) := by decide +kernel
theorem dX6_refersTo_21 : decode cX6_refersTo 21 = .ok (.getfield 104, 3) := by decide +kernel
theorem dX6_refersTo_24 : decode cX6_refersTo 24 = .ok (.invokevirtual 334, 3) := by decide +kernel
theorem dX6_refersTo_27 : decode cX6_refersTo 27 = .ok (.ifCond .eq 5, 3) := by decide +kernel
theorem dX6_refersTo_30 : decode cX6_refersTo 30 = .ok (.iconst 1, 1) := by decide +kernel
theorem dX6_refersTo_31 : decode cX6_refersTo 31 = .ok (.ireturn, 1) := by decide +kernel
theorem dX6_refersTo_32 : decode cX6_refersTo 32 = .ok (.iinc 3 1, 3) := by decide +kernel
theorem dX6_refersTo_35 : decode cX6_refersTo 35 = .ok (.goto (-33), 3) := by decide +kernel
theorem dX6_refersTo_38 : decode cX6_refersTo 38 = .ok (.iconst 0, 1) := by decide +kernel
theorem dX6_refersTo_39 : decode cX6_refersTo 39 = .ok (.ireturn, 1) := by decide +kernel
theorem dX6_beginFirst_0 : decode cX6_beginFirst 0 = .ok (.aload_n 1, 1) := by decide +kernel
theorem dX6_beginFirst_1 : decode cX6_beginFirst 1 = .ok (.getfield 201, 3) := by decide +kernel
theorem dX6_beginFirst_4 : decode cX6_beginFirst 4 = .ok (.ifCond .le 33, 3) := by decide +kernel
theorem dX6_beginFirst_7 : decode cX6_beginFirst 7 = .ok (.aload_n 1, 1) := by decide +kernel
theorem dX6_beginFirst_8 : decode cX6_beginFirst 8 = .ok (.getfield 210, 3) := by decide +kernel
theorem dX6_beginFirst_11 : decode cX6_beginFirst 11 = .ok (.iconst 0, 1) := by decide +kernel
theorem dX6_beginFirst_12 : decode cX6_beginFirst 12 = .ok (.iaload, 1) := by decide +kernel
theorem dX6_beginFirst_13 : decode cX6_beginFirst 13 = .ok (.istore_n 2, 1) := by decide +kernel
theorem dX6_beginFirst_14 : decode cX6_beginFirst 14 = .ok (.aload_n 0, 1) := by decide +kernel
theorem dX6_beginFirst_15 : decode cX6_beginFirst 15 = .ok (.getfield 18, 3) := by decide +kernel
theorem dX6_beginFirst_18 : decode cX6_beginFirst 18 = .ok (.iload_n 2, 1) := by decide +kernel
theorem dX6_beginFirst_19 : decode cX6_beginFirst 19 = .ok (.aaload, 1) := by decide +kernel
theorem dX6_beginFirst_20 : decode cX6_beginFirst 20 = .ok (.aload_n 0, 1) := by decide +kernel
theorem dX6_beginFirst_21 : decode cX6_beginFirst 21 = .ok (.getfield 218, 3) := by decide +kernel
theorem dX6_beginFirst_24 : decode cX6_beginFirst 24 = .ok (.aload_n 1, 1) := by decide +kernel
theorem dX6_beginFirst_25 : decode cX6_beginFirst 25 = .ok (.aload_n 0, 1) := by decide +kernel
theorem dX6_beginFirst_26 : decode cX6_beginFirst 26 = .ok (.iload_n 2, 1) := by decide +kernel
theorem dX6_beginFirst_27 : decode cX6_beginFirst 27 = .ok (.invokevirtual 263, 3) := by decide +kernel
theorem dX6_beginFirst_30 : decode cX6_beginFirst 30 = .ok (.invokevirtual 338, 3) := by decide +kernel
theorem dX6_beginFirst_33 : decode cX6_beginFirst 33 = .ok (.iadd, 1) := by decide +kernel
theorem dX6_beginFirst_34 : decode cX6_beginFirst 34 = .ok (.putfield 213, 3) := by decide +kernel
theorem dX6_beginFirst_37 : decode cX6_beginFirst 37 = .ok (.return_, 1) := by decide +kernel
theorem dX6_endsAnArticle_0 : decode cX6_endsAnArticle 0 = .ok (.aload_n 1, 1) := by decide +kernel
theorem dX6_endsAnArticle_1 : decode cX6_endsAnArticle 1 = .ok (.getfield 201, 3) := by decide +kernel
theorem dX6_endsAnArticle_4 : decode cX6_endsAnArticle 4 = .ok (.ifCond .ne 5, 3) := by decide +kernel
theorem dX6_endsAnArticle_7 : decode cX6_endsAnArticle 7 = .ok (.iconst 0, 1) := by decide +kernel
theorem dX6_endsAnArticle_8 : decode cX6_endsAnArticle 8 = .ok (.ireturn, 1) := by decide +kernel
theorem dX6_endsAnArticle_9 : decode cX6_endsAnArticle 9 = .ok (.aload_n 0, 1) := by decide +kernel
theorem dX6_endsAnArticle_10 : decode cX6_endsAnArticle 10 = .ok (.getfield 18, 3) := by decide +kernel
theorem dX6_endsAnArticle_13 : decode cX6_endsAnArticle 13 = .ok (.aload_n 1, 1) := by decide +kernel
theorem dX6_endsAnArticle_14 : decode cX6_endsAnArticle 14 = .ok (.getfield 210, 3) := by decide +kernel
theorem dX6_endsAnArticle_17 : decode cX6_endsAnArticle 17 = .ok (.iconst 0, 1) := by decide +kernel
theorem dX6_endsAnArticle_18 : decode cX6_endsAnArticle 18 = .ok (.iaload, 1) := by decide +kernel
theorem dX6_endsAnArticle_19 : decode cX6_endsAnArticle 19 = .ok (.aaload, 1) := by decide +kernel
theorem dX6_endsAnArticle_20 : decode cX6_endsAnArticle 20 = .ok (.astore_n 2, 1) := by decide +kernel
theorem dX6_endsAnArticle_21 : decode cX6_endsAnArticle 21 = .ok (.aload_n 2, 1) := by decide +kernel
theorem dX6_endsAnArticle_22 : decode cX6_endsAnArticle 22 = .ok (.getfield 213, 3) := by decide +kernel
theorem dX6_endsAnArticle_25 : decode cX6_endsAnArticle 25 = .ok (.aload_n 0, 1) := by decide +kernel
theorem dX6_endsAnArticle_26 : decode cX6_endsAnArticle 26 = .ok (.getfield 218, 3) := by decide +kernel
theorem dX6_endsAnArticle_29 : decode cX6_endsAnArticle 29 = .ok (.if_icmp .eq 5, 3) := by decide +kernel
theorem dX6_endsAnArticle_32 : decode cX6_endsAnArticle 32 = .ok (.iconst 0, 1) := by decide +kernel
theorem dX6_endsAnArticle_33 : decode cX6_endsAnArticle 33 = .ok (.ireturn, 1) := by decide +kernel
theorem dX6_endsAnArticle_34 : decode cX6_endsAnArticle 34 = .ok (.aload_n 2, 1) := by decide +kernel
theorem dX6_endsAnArticle_35 : decode cX6_endsAnArticle 35 = .ok (.iconst 1, 1) := by decide +kernel
theorem dX6_endsAnArticle_36 : decode cX6_endsAnArticle 36 = .ok (.putfield 341, 3) := by decide +kernel
theorem dX6_endsAnArticle_39 : decode cX6_endsAnArticle 39 = .ok (.aload_n 1, 1) := by decide +kernel
theorem dX6_endsAnArticle_40 : decode cX6_endsAnArticle 40 = .ok (.invokevirtual 344, 3) := by decide +kernel
theorem dX6_endsAnArticle_43 : decode cX6_endsAnArticle 43 = .ok (.aload_n 0, 1) := by decide +kernel
theorem dX6_endsAnArticle_44 : decode cX6_endsAnArticle 44 = .ok (.aload_n 1, 1) := by decide +kernel
theorem dX6_endsAnArticle_45 : decode cX6_endsAnArticle 45 = .ok (.invokevirtual 204, 3) := by decide +kernel
theorem dX6_endsAnArticle_48 : decode cX6_endsAnArticle 48 = .ok (.iconst 1, 1) := by decide +kernel
theorem dX6_endsAnArticle_49 : decode cX6_endsAnArticle 49 = .ok (.ireturn, 1) := by decide +kernel
theorem dX6_putToPressFrom_0 : decode cX6_putToPressFrom 0 = .ok (.iconst 0, 1) := by decide +kernel
theorem dX6_putToPressFrom_1 : decode cX6_putToPressFrom 1 = .ok (.istore_n 2, 1) := by decide +kernel
theorem dX6_putToPressFrom_2 : decode cX6_putToPressFrom 2 = .ok (.iconst 0, 1) := by decide +kernel
theorem dX6_putToPressFrom_3 : decode cX6_putToPressFrom 3 = .ok (.istore_n 3, 1) := by decide +kernel
theorem dX6_putToPressFrom_4 : decode cX6_putToPressFrom 4 = .ok (.iload_n 3, 1) := by decide +kernel
theorem dX6_putToPressFrom_5 : decode cX6_putToPressFrom 5 = .ok (.aload_n 0, 1) := by decide +kernel
theorem dX6_putToPressFrom_6 : decode cX6_putToPressFrom 6 = .ok (.getfield 89, 3) := by decide +kernel
theorem dX6_putToPressFrom_9 : decode cX6_putToPressFrom 9 = .ok (.if_icmp .ge 62, 3) := by decide +kernel
theorem dX6_putToPressFrom_12 : decode cX6_putToPressFrom 12 = .ok (.aload_n 0, 1) := by decide +kernel
theorem dX6_putToPressFrom_13 : decode cX6_putToPressFrom 13 = .ok (.getfield 18, 3) := by decide +kernel
theorem dX6_putToPressFrom_16 : decode cX6_putToPressFrom 16 = .ok (.iload_n 3, 1) := by decide +kernel
theorem dX6_putToPressFrom_17 : decode cX6_putToPressFrom 17 = .ok (.aaload, 1) := by decide +kernel
theorem dX6_putToPressFrom_18 : decode cX6_putToPressFrom 18 = .ok (.astore 4, 2) := by decide +kernel
theorem dX6_putToPressFrom_20 : decode cX6_putToPressFrom 20 = .ok (.aload 4, 2) := by decide +kernel
theorem dX6_putToPressFrom_22 : decode cX6_putToPressFrom 22 = .ok (.invokevirtual 347, 3) := by decide +kernel
theorem dX6_putToPressFrom_25 : decode cX6_putToPressFrom 25 = .ok (.ifCond .eq 40, 3) := by decide +kernel
theorem dX6_putToPressFrom_28 : decode cX6_putToPressFrom 28 = .ok (.aload_n 0, 1) := by decide +kernel
theorem dX6_putToPressFrom_29 : decode cX6_putToPressFrom 29 = .ok (.aload 4, 2) := by decide +kernel
theorem dX6_putToPressFrom_31 : decode cX6_putToPressFrom 31 = .ok (.getfield 104, 3) := by decide +kernel
theorem dX6_putToPressFrom_34 : decode cX6_putToPressFrom 34 = .ok (.invokevirtual 259, 3) := by decide +kernel
theorem dX6_putToPressFrom_37 : decode cX6_putToPressFrom 37 = .ok (.iload_n 1, 1) := by decide +kernel
theorem dX6_putToPressFrom_38 : decode cX6_putToPressFrom 38 = .ok (.if_icmp .lt 27, 3) := by decide +kernel
theorem dX6_putToPressFrom_41 : decode cX6_putToPressFrom 41 = .ok (.aload_n 0, 1) := by decide +kernel
theorem dX6_putToPressFrom_42 : decode cX6_putToPressFrom 42 = .ok (.aload 4, 2) := by decide +kernel
theorem dX6_putToPressFrom_44 : decode cX6_putToPressFrom 44 = .ok (.getfield 104, 3) := by decide +kernel
theorem dX6_putToPressFrom_47 : decode cX6_putToPressFrom 47 = .ok (.invokevirtual 326, 3) := by decide +kernel
theorem dX6_putToPressFrom_50 : decode cX6_putToPressFrom 50 = .ok (.ifCond .eq 15, 3) := by decide +kernel
theorem dX6_putToPressFrom_53 : decode cX6_putToPressFrom 53 = .ok (.aload 4, 2) := by decide +kernel
theorem dX6_putToPressFrom_55 : decode cX6_putToPressFrom 55 = .ok (.aload_n 0, 1) := by decide +kernel
theorem dX6_putToPressFrom_56 : decode cX6_putToPressFrom 56 = .ok (.getfield 38, 3) := by decide +kernel
theorem dX6_putToPressFrom_59 : decode cX6_putToPressFrom 59 = .ok (.invokevirtual 350, 3) := by decide +kernel
theorem dX6_putToPressFrom_62 : decode cX6_putToPressFrom 62 = .ok (.iinc 2 1, 3) := by decide +kernel
theorem dX6_putToPressFrom_65 : decode cX6_putToPressFrom 65 = .ok (.iinc 3 1, 3) := by decide +kernel
theorem dX6_putToPressFrom_68 : decode cX6_putToPressFrom 68 = .ok (.goto (-64), 3) := by decide +kernel
theorem dX6_putToPressFrom_71 : decode cX6_putToPressFrom 71 = .ok (.iload_n 2, 1) := by decide +kernel
theorem dX6_putToPressFrom_72 : decode cX6_putToPressFrom 72 = .ok (.ireturn, 1) := by decide +kernel
theorem dX6_lookAtReferences_0 : decode cX6_lookAtReferences 0 = .ok (.iconst 0, 1) := by decide +kernel
theorem dX6_lookAtReferences_1 : decode cX6_lookAtReferences 1 = .ok (.istore_n 1, 1) := by decide +kernel
theorem dX6_lookAtReferences_2 : decode cX6_lookAtReferences 2 = .ok (.iload_n 1, 1) := by decide +kernel
theorem dX6_lookAtReferences_3 : decode cX6_lookAtReferences 3 = .ok (.aload_n 0, 1) := by decide +kernel
theorem dX6_lookAtReferences_4 : decode cX6_lookAtReferences 4 = .ok (.getfield 89, 3) := by decide +kernel
theorem dX6_lookAtReferences_7 : decode cX6_lookAtReferences 7 = .ok (.if_icmp .ge 76, 3) := by decide +kernel
theorem dX6_lookAtReferences_10 : decode cX6_lookAtReferences 10 = .ok (.iconst 0, 1) := by decide +kernel
theorem dX6_lookAtReferences_11 : decode cX6_lookAtReferences 11 = .ok (.istore_n 2, 1) := by decide +kernel
theorem dX6_lookAtReferences_12 : decode cX6_lookAtReferences 12 = .ok (.aload_n 0, 1) := by decide +kernel
theorem dX6_lookAtReferences_13 : decode cX6_lookAtReferences 13 = .ok (.getfield 18, 3) := by decide +kernel
theorem dX6_lookAtReferences_16 : decode cX6_lookAtReferences 16 = .ok (.iload_n 1, 1) := by decide +kernel
theorem dX6_lookAtReferences_17 : decode cX6_lookAtReferences 17 = .ok (.aaload, 1) := by decide +kernel
theorem dX6_lookAtReferences_18 : decode cX6_lookAtReferences 18 = .ok (.getfield 116, 3) := by decide +kernel
theorem dX6_lookAtReferences_21 : decode cX6_lookAtReferences 21 = .ok (.ifCond .eq 56, 3) := by decide +kernel
theorem dX6_lookAtReferences_24 : decode cX6_lookAtReferences 24 = .ok (.iload_n 2, 1) := by decide +kernel
theorem dX6_lookAtReferences_25 : decode cX6_lookAtReferences 25 = .ok (.aload_n 0, 1) := by decide +kernel
theorem dX6_lookAtReferences_26 : decode cX6_lookAtReferences 26 = .ok (.getfield 18, 3) := by decide +kernel
theorem dX6_lookAtReferences_29 : decode cX6_lookAtReferences 29 = .ok (.iload_n 1, 1) := by decide +kernel
theorem dX6_lookAtReferences_30 : decode cX6_lookAtReferences 30 = .ok (.aaload, 1) := by decide +kernel
theorem dX6_lookAtReferences_31 : decode cX6_lookAtReferences 31 = .ok (.getfield 119, 3) := by decide +kernel
theorem dX6_lookAtReferences_34 : decode cX6_lookAtReferences 34 = .ok (.if_icmp .ge 43, 3) := by decide +kernel
theorem dX6_lookAtReferences_37 : decode cX6_lookAtReferences 37 = .ok (.aload_n 0, 1) := by decide +kernel
theorem dX6_lookAtReferences_38 : decode cX6_lookAtReferences 38 = .ok (.getfield 18, 3) := by decide +kernel
theorem dX6_lookAtReferences_41 : decode cX6_lookAtReferences 41 = .ok (.iload_n 1, 1) := by decide +kernel
theorem dX6_lookAtReferences_42 : decode cX6_lookAtReferences 42 = .ok (.aaload, 1) := by decide +kernel
theorem dX6_lookAtReferences_43 : decode cX6_lookAtReferences 43 = .ok (.getfield 124, 3) := by decide +kernel
theorem dX6_lookAtReferences_46 : decode cX6_lookAtReferences 46 = .ok (.iload_n 2, 1) := by decide +kernel
theorem dX6_lookAtReferences_47 : decode cX6_lookAtReferences 47 = .ok (.aaload, 1) := by decide +kernel
theorem dX6_lookAtReferences_48 : decode cX6_lookAtReferences 48 = .ok (.astore_n 3, 1) := by decide +kernel
theorem dX6_lookAtReferences_49 : decode cX6_lookAtReferences 49 = .ok (.aload_n 3, 1) := by decide +kernel
theorem dX6_lookAtReferences_50 : decode cX6_lookAtReferences 50 = .ok (.getfield 354, 3) := by decide +kernel
theorem dX6_lookAtReferences_53 : decode cX6_lookAtReferences 53 = .ok (.getstatic 357, 3) := by decide +kernel
theorem dX6_lookAtReferences_56 : decode cX6_lookAtReferences 56 = .ok (.if_acmp .ne 15, 3) := by decide +kernel
theorem dX6_lookAtReferences_59 : decode cX6_lookAtReferences 59 = .ok (.aload_n 3, 1) := by decide +kernel
theorem dX6_lookAtReferences_60 : decode cX6_lookAtReferences 60 = .ok (.aload_n 0, 1) := by decide +kernel
theorem dX6_lookAtReferences_61 : decode cX6_lookAtReferences 61 = .ok (.aload_n 3, 1) := by decide +kernel
theorem dX6_lookAtReferences_62 : decode cX6_lookAtReferences 62 = .ok (.getfield 128, 3) := by decide +kernel
theorem dX6_lookAtReferences_65 : decode cX6_lookAtReferences 65 = .ok (.invokevirtual 360, 3) := by decide +kernel
theorem dX6_lookAtReferences_68 : decode cX6_lookAtReferences 68 = .ok (.putfield 354, 3) := by decide +kernel
theorem dX6_lookAtReferences_71 : decode cX6_lookAtReferences 71 = .ok (.iinc 2 1, 3) := by decide +kernel
theorem dX6_lookAtReferences_74 : decode cX6_lookAtReferences 74 = .ok (.goto (-62), 3) := by decide +kernel
theorem dX6_lookAtReferences_77 : decode cX6_lookAtReferences 77 = .ok (.iinc 1 1, 3) := by decide +kernel
theorem dX6_lookAtReferences_80 : decode cX6_lookAtReferences 80 = .ok (.goto (-78), 3) := by decide +kernel
theorem dX6_lookAtReferences_83 : decode cX6_lookAtReferences 83 = .ok (.return_, 1) := by decide +kernel
theorem dX6_fateOf_0 : decode cX6_fateOf 0 = .ok (.aload_n 0, 1) := by decide +kernel
theorem dX6_fateOf_1 : decode cX6_fateOf 1 = .ok (.aload_n 1, 1) := by decide +kernel
theorem dX6_fateOf_2 : decode cX6_fateOf 2 = .ok (.invokevirtual 364, 3) := by decide +kernel
theorem dX6_fateOf_5 : decode cX6_fateOf 5 = .ok (.ifCond .eq 7, 3) := by decide +kernel
theorem dX6_fateOf_8 : decode cX6_fateOf 8 = .ok (.getstatic 367, 3) := by decide +kernel
theorem dX6_fateOf_11 : decode cX6_fateOf 11 = .ok (.areturn, 1) := by decide +kernel
theorem dX6_fateOf_12 : decode cX6_fateOf 12 = .ok (.aload_n 0, 1) := by decide +kernel
theorem dX6_fateOf_13 : decode cX6_fateOf 13 = .ok (.aload_n 1, 1) := by decide +kernel
theorem dX6_fateOf_14 : decode cX6_fateOf 14 = .ok (.invokevirtual 326, 3) := by decide +kernel
theorem dX6_fateOf_17 : decode cX6_fateOf 17 = .ok (.ifCond .eq 9, 3) := by decide +kernel
theorem dX6_fateOf_20 : decode cX6_fateOf 20 = .ok (.getstatic 266, 3) := by decide +kernel
theorem dX6_fateOf_23 : decode cX6_fateOf 23 = .ok (.goto 6, 3) := by decide +kernel
theorem dX6_fateOf_26 : decode cX6_fateOf 26 = .ok (.getstatic 370, 3) := by decide +kernel
theorem dX6_fateOf_29 : decode cX6_fateOf 29 = .ok (.areturn, 1) := by decide +kernel
theorem dX6_isThere_0 : decode cX6_isThere 0 = .ok (.iconst 0, 1) := by decide +kernel
theorem dX6_isThere_1 : decode cX6_isThere 1 = .ok (.istore_n 2, 1) := by decide +kernel
theorem dX6_isThere_2 : decode cX6_isThere 2 = .ok (.iload_n 2, 1) := by decide +kernel
theorem dX6_isThere_3 : decode cX6_isThere 3 = .ok (.aload_n 0, 1) := by decide +kernel
theorem dX6_isThere_4 : decode cX6_isThere 4 = .ok (.getfield 89, 3) := by decide +kernel
theorem dX6_isThere_7 : decode cX6_isThere 7 = .ok (.if_icmp .ge 40, 3) := by decide +kernel
theorem dX6_isThere_10 : decode cX6_isThere 10 = .ok (.aload_n 0, 1) := by decide +kernel
theorem dX6_isThere_11 : decode cX6_isThere 11 = .ok (.getfield 18, 3) := by decide +kernel
theorem dX6_isThere_14 : decode cX6_isThere 14 = .ok (.iload_n 2, 1) := by decide +kernel
theorem dX6_isThere_15 : decode cX6_isThere 15 = .ok (.aaload, 1) := by decide +kernel
theorem dX6_isThere_16 : decode cX6_isThere 16 = .ok (.getfield 116, 3) := by decide +kernel
theorem dX6_isThere_19 : decode cX6_isThere 19 = .ok (.ifCond .eq 22, 3) := by decide +kernel
theorem dX6_isThere_22 : decode cX6_isThere 22 = .ok (.aload_n 0, 1) := by decide +kernel
theorem dX6_isThere_23 : decode cX6_isThere 23 = .ok (.aload_n 0, 1) := by decide +kernel
theorem dX6_isThere_24 : decode cX6_isThere 24 = .ok (.getfield 18, 3) := by decide +kernel
theorem dX6_isThere_27 : decode cX6_isThere 27 = .ok (.iload_n 2, 1) := by decide +kernel
theorem dX6_isThere_28 : decode cX6_isThere 28 = .ok (.aaload, 1) := by decide +kernel
theorem dX6_isThere_29 : decode cX6_isThere 29 = .ok (.getfield 104, 3) := by decide +kernel
theorem dX6_isThere_32 : decode cX6_isThere 32 = .ok (.aload_n 1, 1) := by decide +kernel
theorem dX6_isThere_33 : decode cX6_isThere 33 = .ok (.invokevirtual 334, 3) := by decide +kernel
theorem dX6_isThere_36 : decode cX6_isThere 36 = .ok (.ifCond .eq 5, 3) := by decide +kernel
theorem dX6_isThere_39 : decode cX6_isThere 39 = .ok (.iconst 1, 1) := by decide +kernel
theorem dX6_isThere_40 : decode cX6_isThere 40 = .ok (.ireturn, 1) := by decide +kernel
theorem dX6_isThere_41 : decode cX6_isThere 41 = .ok (.iinc 2 1, 3) := by decide +kernel
theorem dX6_isThere_44 : decode cX6_isThere 44 = .ok (.goto (-42), 3) := by decide +kernel
theorem dX6_isThere_47 : decode cX6_isThere 47 = .ok (.iconst 0, 1) := by decide +kernel
theorem dX6_isThere_48 : decode cX6_isThere 48 = .ok (.ireturn, 1) := by decide +kernel
theorem dX6_isBroken_0 : decode cX6_isBroken 0 = .ok (.aload_n 1, 1) := by decide +kernel
theorem dX6_isBroken_1 : decode cX6_isBroken 1 = .ok (.getfield 354, 3) := by decide +kernel
theorem dX6_isBroken_4 : decode cX6_isBroken 4 = .ok (.getstatic 370, 3) := by decide +kernel
theorem dX6_isBroken_7 : decode cX6_isBroken 7 = .ok (.if_acmp .ne 29, 3) := by decide +kernel
theorem dX6_isBroken_10 : decode cX6_isBroken 10 = .ok (.aload_n 0, 1) := by decide +kernel
theorem dX6_isBroken_11 : decode cX6_isBroken 11 = .ok (.aload_n 1, 1) := by decide +kernel
theorem dX6_isBroken_12 : decode cX6_isBroken 12 = .ok (.getfield 128, 3) := by decide +kernel
theorem dX6_isBroken_15 : decode cX6_isBroken 15 = .ok (.invokevirtual 326, 3) := by decide +kernel
theorem dX6_isBroken_18 : decode cX6_isBroken 18 = .ok (.ifCond .eq 18, 3) := by decide +kernel
theorem dX6_isBroken_21 : decode cX6_isBroken 21 = .ok (.aload_n 0, 1) := by decide +kernel
theorem dX6_isBroken_22 : decode cX6_isBroken 22 = .ok (.aload_n 1, 1) := by decide +kernel
theorem dX6_isBroken_23 : decode cX6_isBroken 23 = .ok (.getfield 128, 3) := by decide +kernel
theorem dX6_isBroken_26 : decode cX6_isBroken 26 = .ok (.invokevirtual 364, 3) := by decide +kernel
theorem dX6_isBroken_29 : decode cX6_isBroken 29 = .ok (.ifCond .ne 7, 3) := by decide +kernel
theorem dX6_isBroken_32 : decode cX6_isBroken 32 = .ok (.iconst 1, 1) := by decide +kernel
theorem dX6_isBroken_33 : decode cX6_isBroken 33 = .ok (.goto 4, 3) := by decide +kernel
theorem dX6_isBroken_36 : decode cX6_isBroken 36 = .ok (.iconst 0, 1) := by decide +kernel
theorem dX6_isBroken_37 : decode cX6_isBroken 37 = .ok (.ireturn, 1) := by decide +kernel
theorem dX6_countBroken_0 : decode cX6_countBroken 0 = .ok (.iconst 0, 1) := by decide +kernel
theorem dX6_countBroken_1 : decode cX6_countBroken 1 = .ok (.istore_n 2, 1) := by decide +kernel
theorem dX6_countBroken_2 : decode cX6_countBroken 2 = .ok (.iconst 0, 1) := by decide +kernel
theorem dX6_countBroken_3 : decode cX6_countBroken 3 = .ok (.istore_n 3, 1) := by decide +kernel
theorem dX6_countBroken_4 : decode cX6_countBroken 4 = .ok (.iload_n 3, 1) := by decide +kernel
theorem dX6_countBroken_5 : decode cX6_countBroken 5 = .ok (.aload_n 1, 1) := by decide +kernel
theorem dX6_countBroken_6 : decode cX6_countBroken 6 = .ok (.getfield 119, 3) := by decide +kernel
theorem dX6_countBroken_9 : decode cX6_countBroken 9 = .ok (.if_icmp .ge 25, 3) := by decide +kernel
theorem dX6_countBroken_12 : decode cX6_countBroken 12 = .ok (.aload_n 0, 1) := by decide +kernel
theorem dX6_countBroken_13 : decode cX6_countBroken 13 = .ok (.aload_n 1, 1) := by decide +kernel
theorem dX6_countBroken_14 : decode cX6_countBroken 14 = .ok (.getfield 124, 3) := by decide +kernel
theorem dX6_countBroken_17 : decode cX6_countBroken 17 = .ok (.iload_n 3, 1) := by decide +kernel
theorem dX6_countBroken_18 : decode cX6_countBroken 18 = .ok (.aaload, 1) := by decide +kernel
theorem dX6_countBroken_19 : decode cX6_countBroken 19 = .ok (.invokevirtual 373, 3) := by decide +kernel
theorem dX6_countBroken_22 : decode cX6_countBroken 22 = .ok (.ifCond .eq 6, 3) := by decide +kernel
theorem dX6_countBroken_25 : decode cX6_countBroken 25 = .ok (.iinc 2 1, 3) := by decide +kernel
theorem dX6_countBroken_28 : decode cX6_countBroken 28 = .ok (.iinc 3 1, 3) := by decide +kernel
theorem dX6_countBroken_31 : decode cX6_countBroken 31 = .ok (.goto (-27), 3) := by decide +kernel
theorem dX6_countBroken_34 : decode cX6_countBroken 34 = .ok (.iload_n 2, 1) := by decide +kernel
theorem dX6_countBroken_35 : decode cX6_countBroken 35 = .ok (.ireturn, 1) := by decide +kernel
theorem dX6_tellFacts_0 : decode cX6_tellFacts 0 = .ok (.iconst 0, 1) := by decide +kernel
theorem dX6_tellFacts_1 : decode cX6_tellFacts 1 = .ok (.istore_n 1, 1) := by decide +kernel
theorem dX6_tellFacts_2 : decode cX6_tellFacts 2 = .ok (.iconst 0, 1) := by decide +kernel
theorem dX6_tellFacts_3 : decode cX6_tellFacts 3 = .ok (.istore_n 2, 1) := by decide +kernel
theorem dX6_tellFacts_4 : decode cX6_tellFacts 4 = .ok (.iload_n 2, 1) := by decide +kernel
theorem dX6_tellFacts_5 : decode cX6_tellFacts 5 = .ok (.aload_n 0, 1) := by decide +kernel
theorem dX6_tellFacts_6 : decode cX6_tellFacts 6 = .ok (.getfield 89, 3) := by decide +kernel
theorem dX6_tellFacts_9 : decode cX6_tellFacts 9 = .ok (.if_icmp .ge 91, 3) := by decide +kernel
theorem dX6_tellFacts_12 : decode cX6_tellFacts 12 = .ok (.aload_n 0, 1) := by decide +kernel
theorem dX6_tellFacts_13 : decode cX6_tellFacts 13 = .ok (.getfield 18, 3) := by decide +kernel
theorem dX6_tellFacts_16 : decode cX6_tellFacts 16 = .ok (.iload_n 2, 1) := by decide +kernel
theorem dX6_tellFacts_17 : decode cX6_tellFacts 17 = .ok (.aaload, 1) := by decide +kernel
theorem dX6_tellFacts_18 : decode cX6_tellFacts 18 = .ok (.astore_n 3, 1) := by decide +kernel
theorem dX6_tellFacts_19 : decode cX6_tellFacts 19 = .ok (.iconst 0, 1) := by decide +kernel
theorem dX6_tellFacts_20 : decode cX6_tellFacts 20 = .ok (.istore 4, 2) := by decide +kernel
theorem dX6_tellFacts_22 : decode cX6_tellFacts 22 = .ok (.iload 4, 2) := by decide +kernel
theorem dX6_tellFacts_24 : decode cX6_tellFacts 24 = .ok (.bipush 8, 2) := by decide +kernel
theorem dX6_tellFacts_26 : decode cX6_tellFacts 26 = .ok (.if_icmp .ge 68, 3) := by decide +kernel
theorem dX6_tellFacts_29 : decode cX6_tellFacts 29 = .ok (.aload_n 3, 1) := by decide +kernel
theorem dX6_tellFacts_30 : decode cX6_tellFacts 30 = .ok (.getfield 116, 3) := by decide +kernel
theorem dX6_tellFacts_33 : decode cX6_tellFacts 33 = .ok (.ifCond .eq 55, 3) := by decide +kernel
theorem dX6_tellFacts_36 : decode cX6_tellFacts 36 = .ok (.aload_n 3, 1) := by decide +kernel
theorem dX6_tellFacts_37 : decode cX6_tellFacts 37 = .ok (.getfield 139, 3) := by decide +kernel
theorem dX6_tellFacts_40 : decode cX6_tellFacts 40 = .ok (.iload 4, 2) := by decide +kernel
theorem dX6_tellFacts_42 : decode cX6_tellFacts 42 = .ok (.baload, 1) := by decide +kernel
theorem dX6_tellFacts_43 : decode cX6_tellFacts 43 = .ok (.ifCond .eq 45, 3) := by decide +kernel
theorem dX6_tellFacts_46 : decode cX6_tellFacts 46 = .ok (.aload_n 3, 1) := by decide +kernel
theorem dX6_tellFacts_47 : decode cX6_tellFacts 47 = .ok (.getfield 377, 3) := by decide +kernel
theorem dX6_tellFacts_50 : decode cX6_tellFacts 50 = .ok (.iload 4, 2) := by decide +kernel
theorem dX6_tellFacts_52 : decode cX6_tellFacts 52 = .ok (.iaload, 1) := by decide +kernel
theorem dX6_tellFacts_53 : decode cX6_tellFacts 53 = .ok (.aload_n 0, 1) := by decide +kernel
theorem dX6_tellFacts_54 : decode cX6_tellFacts 54 = .ok (.getfield 38, 3) := by decide +kernel
theorem dX6_tellFacts_57 : decode cX6_tellFacts 57 = .ok (.iload 4, 2) := by decide +kernel
theorem dX6_tellFacts_59 : decode cX6_tellFacts 59 = .ok (.iaload, 1) := by decide +kernel
theorem dX6_tellFacts_60 : decode cX6_tellFacts 60 = .ok (.if_icmp .eq 28, 3) := by decide +kernel
theorem dX6_tellFacts_63 : decode cX6_tellFacts 63 = .ok (.aload_n 3, 1) := by decide +kernel
theorem dX6_tellFacts_64 : decode cX6_tellFacts 64 = .ok (.getfield 377, 3) := by decide +kernel
theorem dX6_tellFacts_67 : decode cX6_tellFacts 67 = .ok (.iload 4, 2) := by decide +kernel
theorem dX6_tellFacts_69 : decode cX6_tellFacts 69 = .ok (.aload_n 0, 1) := by decide +kernel
theorem dX6_tellFacts_70 : decode cX6_tellFacts 70 = .ok (.getfield 38, 3) := by decide +kernel
theorem dX6_tellFacts_73 : decode cX6_tellFacts 73 = .ok (.iload 4, 2) := by decide +kernel
theorem dX6_tellFacts_75 : decode cX6_tellFacts 75 = .ok (.iaload, 1) := by decide +kernel
theorem dX6_tellFacts_76 : decode cX6_tellFacts 76 = .ok (.iastore, 1) := by decide +kernel
theorem dX6_tellFacts_77 : decode cX6_tellFacts 77 = .ok (.aload_n 0, 1) := by decide +kernel
theorem dX6_tellFacts_78 : decode cX6_tellFacts 78 = .ok (.aload_n 3, 1) := by decide +kernel
theorem dX6_tellFacts_79 : decode cX6_tellFacts 79 = .ok (.getfield 195, 3) := by decide +kernel
theorem dX6_tellFacts_82 : decode cX6_tellFacts 82 = .ok (.invokevirtual 380, 3) := by decide +kernel
theorem dX6_tellFacts_85 : decode cX6_tellFacts 85 = .ok (.iinc 1 1, 3) := by decide +kernel
theorem dX6_tellFacts_88 : decode cX6_tellFacts 88 = .ok (.iinc 4 1, 3) := by decide +kernel
theorem dX6_tellFacts_91 : decode cX6_tellFacts 91 = .ok (.goto (-69), 3) := by decide +kernel
theorem dX6_tellFacts_94 : decode cX6_tellFacts 94 = .ok (.iinc 2 1, 3) := by decide +kernel
theorem dX6_tellFacts_97 : decode cX6_tellFacts 97 = .ok (.goto (-93), 3) := by decide +kernel
theorem dX6_tellFacts_100 : decode cX6_tellFacts 100 = .ok (.iload_n 1, 1) := by decide +kernel
theorem dX6_tellFacts_101 : decode cX6_tellFacts 101 = .ok (.ireturn, 1) := by decide +kernel
theorem dX6_addErratum_0 : decode cX6_addErratum 0 = .ok (.iload_n 1, 1) := by decide +kernel
theorem dX6_addErratum_1 : decode cX6_addErratum 1 = .ok (.iconst (-1), 1) := by decide +kernel
theorem dX6_addErratum_2 : decode cX6_addErratum 2 = .ok (.if_icmp .eq 18, 3) := by decide +kernel
theorem dX6_addErratum_5 : decode cX6_addErratum 5 = .ok (.aload_n 0, 1) := by decide +kernel
theorem dX6_addErratum_6 : decode cX6_addErratum 6 = .ok (.getfield 30, 3) := by decide +kernel
theorem dX6_addErratum_9 : decode cX6_addErratum 9 = .ok (.iload_n 1, 1) := by decide +kernel
theorem dX6_addErratum_10 : decode cX6_addErratum 10 = .ok (.aaload, 1) := by decide +kernel
theorem dX6_addErratum_11 : decode cX6_addErratum 11 = .ok (.dup, 1) := by decide +kernel
theorem dX6_addErratum_12 : decode cX6_addErratum 12 = .ok (.getfield 276, 3) := by decide +kernel
theorem dX6_addErratum_15 : decode cX6_addErratum 15 = .ok (.iconst 1, 1) := by decide +kernel
theorem dX6_addErratum_16 : decode cX6_addErratum 16 = .ok (.iadd, 1) := by decide +kernel
theorem dX6_addErratum_17 : decode cX6_addErratum 17 = .ok (.putfield 276, 3) := by decide +kernel
theorem dX6_addErratum_20 : decode cX6_addErratum 20 = .ok (.return_, 1) := by decide +kernel
theorem dX6_tellPromises_0 : decode cX6_tellPromises 0 = .ok (.iconst 0, 1) := by decide +kernel
theorem dX6_tellPromises_1 : decode cX6_tellPromises 1 = .ok (.istore_n 1, 1) := by decide +kernel
theorem dX6_tellPromises_2 : decode cX6_tellPromises 2 = .ok (.iconst 0, 1) := by decide +kernel
theorem dX6_tellPromises_3 : decode cX6_tellPromises 3 = .ok (.istore_n 2, 1) := by decide +kernel
theorem dX6_tellPromises_4 : decode cX6_tellPromises 4 = .ok (.iload_n 2, 1) := by decide +kernel
theorem dX6_tellPromises_5 : decode cX6_tellPromises 5 = .ok (.aload_n 0, 1) := by decide +kernel
theorem dX6_tellPromises_6 : decode cX6_tellPromises 6 = .ok (.getfield 89, 3) := by decide +kernel
theorem dX6_tellPromises_9 : decode cX6_tellPromises 9 = .ok (.if_icmp .ge 63, 3) := by decide +kernel
theorem dX6_tellPromises_12 : decode cX6_tellPromises 12 = .ok (.iconst 0, 1) := by decide +kernel
theorem dX6_tellPromises_13 : decode cX6_tellPromises 13 = .ok (.istore_n 3, 1) := by decide +kernel
theorem dX6_tellPromises_14 : decode cX6_tellPromises 14 = .ok (.iload_n 3, 1) := by decide +kernel
theorem dX6_tellPromises_15 : decode cX6_tellPromises 15 = .ok (.aload_n 0, 1) := by decide +kernel
theorem dX6_tellPromises_16 : decode cX6_tellPromises 16 = .ok (.getfield 18, 3) := by decide +kernel
theorem dX6_tellPromises_19 : decode cX6_tellPromises 19 = .ok (.iload_n 2, 1) := by decide +kernel
theorem dX6_tellPromises_20 : decode cX6_tellPromises 20 = .ok (.aaload, 1) := by decide +kernel
theorem dX6_tellPromises_21 : decode cX6_tellPromises 21 = .ok (.getfield 119, 3) := by decide +kernel
theorem dX6_tellPromises_24 : decode cX6_tellPromises 24 = .ok (.if_icmp .ge 42, 3) := by decide +kernel
theorem dX6_tellPromises_27 : decode cX6_tellPromises 27 = .ok (.aload_n 0, 1) := by decide +kernel
theorem dX6_tellPromises_28 : decode cX6_tellPromises 28 = .ok (.getfield 18, 3) := by decide +kernel
theorem dX6_tellPromises_31 : decode cX6_tellPromises 31 = .ok (.iload_n 2, 1) := by decide +kernel
theorem dX6_tellPromises_32 : decode cX6_tellPromises 32 = .ok (.aaload, 1) := by decide +kernel
theorem dX6_tellPromises_33 : decode cX6_tellPromises 33 = .ok (.getfield 124, 3) := by decide +kernel
theorem dX6_tellPromises_36 : decode cX6_tellPromises 36 = .ok (.iload_n 3, 1) := by decide +kernel
theorem dX6_tellPromises_37 : decode cX6_tellPromises 37 = .ok (.aaload, 1) := by decide +kernel
theorem dX6_tellPromises_38 : decode cX6_tellPromises 38 = .ok (.astore 4, 2) := by decide +kernel
theorem dX6_tellPromises_40 : decode cX6_tellPromises 40 = .ok (.aload_n 0, 1) := by decide +kernel
theorem dX6_tellPromises_41 : decode cX6_tellPromises 41 = .ok (.aload 4, 2) := by decide +kernel
theorem dX6_tellPromises_43 : decode cX6_tellPromises 43 = .ok (.invokevirtual 373, 3) := by decide +kernel
theorem dX6_tellPromises_46 : decode cX6_tellPromises 46 = .ok (.ifCond .eq 14, 3) := by decide +kernel
theorem dX6_tellPromises_49 : decode cX6_tellPromises 49 = .ok (.aload 4, 2) := by decide +kernel
theorem dX6_tellPromises_51 : decode cX6_tellPromises 51 = .ok (.getstatic 383, 3) := by decide +kernel
theorem dX6_tellPromises_54 : decode cX6_tellPromises 54 = .ok (.putfield 354, 3) := by decide +kernel
theorem dX6_tellPromises_57 : decode cX6_tellPromises 57 = .ok (.iinc 1 1, 3) := by decide +kernel
theorem dX6_tellPromises_60 : decode cX6_tellPromises 60 = .ok (.iinc 3 1, 3) := by decide +kernel
theorem dX6_tellPromises_63 : decode cX6_tellPromises 63 = .ok (.goto (-49), 3) := by decide +kernel
theorem dX6_tellPromises_66 : decode cX6_tellPromises 66 = .ok (.iinc 2 1, 3) := by decide +kernel
theorem dX6_tellPromises_69 : decode cX6_tellPromises 69 = .ok (.goto (-65), 3) := by decide +kernel
theorem dX6_tellPromises_72 : decode cX6_tellPromises 72 = .ok (.iload_n 1, 1) := by decide +kernel
theorem dX6_tellPromises_73 : decode cX6_tellPromises 73 = .ok (.ireturn, 1) := by decide +kernel
theorem dX6_isContradicted_0 : decode cX6_isContradicted 0 = .ok (.iconst 0, 1) := by decide +kernel
theorem dX6_isContradicted_1 : decode cX6_isContradicted 1 = .ok (.istore_n 3, 1) := by decide +kernel
theorem dX6_isContradicted_2 : decode cX6_isContradicted 2 = .ok (.iconst 0, 1) := by decide +kernel
theorem dX6_isContradicted_3 : decode cX6_isContradicted 3 = .ok (.istore 4, 2) := by decide +kernel
theorem dX6_isContradicted_5 : decode cX6_isContradicted 5 = .ok (.iconst 0, 1) := by decide +kernel
theorem dX6_isContradicted_6 : decode cX6_isContradicted 6 = .ok (.istore 5, 2) := by decide +kernel
theorem dX6_isContradicted_8 : decode cX6_isContradicted 8 = .ok (.iload 5, 2) := by decide +kernel
theorem dX6_isContradicted_10 : decode cX6_isContradicted 10 = .ok (.aload_n 0, 1) := by decide +kernel
theorem dX6_isContradicted_11 : decode cX6_isContradicted 11 = .ok (.getfield 89, 3) := by decide +kernel
theorem dX6_isContradicted_14 : decode cX6_isContradicted 14 = .ok (.if_icmp .ge 66, 3) := by decide +kernel
theorem dX6_isContradicted_17 : decode cX6_isContradicted 17 = .ok (.aload_n 0, 1) := by decide +kernel
theorem dX6_isContradicted_18 : decode cX6_isContradicted 18 = .ok (.getfield 18, 3) := by decide +kernel
theorem dX6_isContradicted_21 : decode cX6_isContradicted 21 = .ok (.iload 5, 2) := by decide +kernel
theorem dX6_isContradicted_23 : decode cX6_isContradicted 23 = .ok (.aaload, 1) := by decide +kernel
theorem dX6_isContradicted_24 : decode cX6_isContradicted 24 = .ok (.astore 6, 2) := by decide +kernel
theorem dX6_isContradicted_26 : decode cX6_isContradicted 26 = .ok (.aload 6, 2) := by decide +kernel
theorem dX6_isContradicted_28 : decode cX6_isContradicted 28 = .ok (.iload_n 2, 1) := by decide +kernel
theorem dX6_isContradicted_29 : decode cX6_isContradicted 29 = .ok (.invokevirtual 279, 3) := by decide +kernel
theorem dX6_isContradicted_32 : decode cX6_isContradicted 32 = .ok (.ifCond .eq 42, 3) := by decide +kernel
theorem dX6_isContradicted_35 : decode cX6_isContradicted 35 = .ok (.aload 6, 2) := by decide +kernel
theorem dX6_isContradicted_37 : decode cX6_isContradicted 37 = .ok (.getfield 139, 3) := by decide +kernel
theorem dX6_isContradicted_40 : decode cX6_isContradicted 40 = .ok (.iload_n 1, 1) := by decide +kernel
theorem dX6_isContradicted_41 : decode cX6_isContradicted 41 = .ok (.baload, 1) := by decide +kernel
theorem dX6_isContradicted_42 : decode cX6_isContradicted 42 = .ok (.ifCond .eq 32, 3) := by decide +kernel
theorem dX6_isContradicted_45 : decode cX6_isContradicted 45 = .ok (.iload_n 3, 1) := by decide +kernel
theorem dX6_isContradicted_46 : decode cX6_isContradicted 46 = .ok (.ifCond .eq 17, 3) := by decide +kernel
theorem dX6_isContradicted_49 : decode cX6_isContradicted 49 = .ok (.aload 6, 2) := by decide +kernel
theorem dX6_isContradicted_51 : decode cX6_isContradicted 51 = .ok (.getfield 377, 3) := by decide +kernel
theorem dX6_isContradicted_54 : decode cX6_isContradicted 54 = .ok (.iload_n 1, 1) := by decide +kernel
theorem dX6_isContradicted_55 : decode cX6_isContradicted 55 = .ok (.iaload, 1) := by decide +kernel
theorem dX6_isContradicted_56 : decode cX6_isContradicted 56 = .ok (.iload 4, 2) := by decide +kernel
theorem dX6_isContradicted_58 : decode cX6_isContradicted 58 = .ok (.if_icmp .eq 5, 3) := by decide +kernel
theorem dX6_isContradicted_61 : decode cX6_isContradicted 61 = .ok (.iconst 1, 1) := by decide +kernel
theorem dX6_isContradicted_62 : decode cX6_isContradicted 62 = .ok (.ireturn, 1) := by decide +kernel
theorem dX6_isContradicted_63 : decode cX6_isContradicted 63 = .ok (.iconst 1, 1) := by decide +kernel
theorem dX6_isContradicted_64 : decode cX6_isContradicted 64 = .ok (.istore_n 3, 1) := by decide +kernel
theorem dX6_isContradicted_65 : decode cX6_isContradicted 65 = .ok (.aload 6, 2) := by decide +kernel
theorem dX6_isContradicted_67 : decode cX6_isContradicted 67 = .ok (.getfield 377, 3) := by decide +kernel
theorem dX6_isContradicted_70 : decode cX6_isContradicted 70 = .ok (.iload_n 1, 1) := by decide +kernel
theorem dX6_isContradicted_71 : decode cX6_isContradicted 71 = .ok (.iaload, 1) := by decide +kernel
theorem dX6_isContradicted_72 : decode cX6_isContradicted 72 = .ok (.istore 4, 2) := by decide +kernel
theorem dX6_isContradicted_74 : decode cX6_isContradicted 74 = .ok (.iinc 5 1, 3) := by decide +kernel
theorem dX6_isContradicted_77 : decode cX6_isContradicted 77 = .ok (.goto (-69), 3) := by decide +kernel
theorem dX6_isContradicted_80 : decode cX6_isContradicted 80 = .ok (.iconst 0, 1) := by decide +kernel
theorem dX6_isContradicted_81 : decode cX6_isContradicted 81 = .ok (.ireturn, 1) := by decide +kernel
theorem dX6_isWithin_0 : decode cX6_isWithin 0 = .ok (.iload_n 1, 1) := by decide +kernel
theorem dX6_isWithin_1 : decode cX6_isWithin 1 = .ok (.istore_n 3, 1) := by decide +kernel
theorem dX6_isWithin_2 : decode cX6_isWithin 2 = .ok (.iconst 0, 1) := by decide +kernel
theorem dX6_isWithin_3 : decode cX6_isWithin 3 = .ok (.istore 4, 2) := by decide +kernel
theorem dX6_isWithin_5 : decode cX6_isWithin 5 = .ok (.iload 4, 2) := by decide +kernel
theorem dX6_isWithin_7 : decode cX6_isWithin 7 = .ok (.bipush 10, 2) := by decide +kernel
theorem dX6_isWithin_9 : decode cX6_isWithin 9 = .ok (.if_icmp .ge 28, 3) := by decide +kernel
theorem dX6_isWithin_12 : decode cX6_isWithin 12 = .ok (.iload_n 3, 1) := by decide +kernel
theorem dX6_isWithin_13 : decode cX6_isWithin 13 = .ok (.iconst (-1), 1) := by decide +kernel
theorem dX6_isWithin_14 : decode cX6_isWithin 14 = .ok (.if_icmp .eq 23, 3) := by decide +kernel
theorem dX6_isWithin_17 : decode cX6_isWithin 17 = .ok (.iload_n 3, 1) := by decide +kernel
theorem dX6_isWithin_18 : decode cX6_isWithin 18 = .ok (.iload_n 2, 1) := by decide +kernel
theorem dX6_isWithin_19 : decode cX6_isWithin 19 = .ok (.if_icmp .ne 5, 3) := by decide +kernel
theorem dX6_isWithin_22 : decode cX6_isWithin 22 = .ok (.iconst 1, 1) := by decide +kernel
theorem dX6_isWithin_23 : decode cX6_isWithin 23 = .ok (.ireturn, 1) := by decide +kernel
theorem dX6_isWithin_24 : decode cX6_isWithin 24 = .ok (.aload_n 0, 1) := by decide +kernel
theorem dX6_isWithin_25 : decode cX6_isWithin 25 = .ok (.getfield 34, 3) := by decide +kernel
theorem dX6_isWithin_28 : decode cX6_isWithin 28 = .ok (.iload_n 3, 1) := by decide +kernel
theorem dX6_isWithin_29 : decode cX6_isWithin 29 = .ok (.iaload, 1) := by decide +kernel
theorem dX6_isWithin_30 : decode cX6_isWithin 30 = .ok (.istore_n 3, 1) := by decide +kernel
theorem dX6_isWithin_31 : decode cX6_isWithin 31 = .ok (.iinc 4 1, 3) := by decide +kernel
theorem dX6_isWithin_34 : decode cX6_isWithin 34 = .ok (.goto (-29), 3) := by decide +kernel
theorem dX6_isWithin_37 : decode cX6_isWithin 37 = .ok (.iconst 0, 1) := by decide +kernel
theorem dX6_isWithin_38 : decode cX6_isWithin 38 = .ok (.ireturn, 1) := by decide +kernel
theorem dL_sign_0 : decode cL_sign 0 = .ok (.aload_n 2, 1) := by decide +kernel
theorem dL_sign_1 : decode cL_sign 1 = .ok (.iconst 0, 1) := by decide +kernel
theorem dL_sign_2 : decode cL_sign 2 = .ok (.aload_n 0, 1) := by decide +kernel
theorem dL_sign_3 : decode cL_sign 3 = .ok (.iload_n 1, 1) := by decide +kernel
theorem dL_sign_4 : decode cL_sign 4 = .ok (.invokevirtual 7, 3) := by decide +kernel
theorem dL_sign_7 : decode cL_sign 7 = .ok (.i2l, 1) := by decide +kernel
theorem dL_sign_8 : decode cL_sign 8 = .ok (.lastore, 1) := by decide +kernel
theorem dL_sign_9 : decode cL_sign 9 = .ok (.goto 9, 3) := by decide +kernel
theorem dL_sign_12 : decode cL_sign 12 = .ok (.astore_n 3, 1) := by decide +kernel
theorem dL_sign_13 : decode cL_sign 13 = .ok (.iconst 1, 1) := by decide +kernel
theorem dL_sign_14 : decode cL_sign 14 = .ok (.ireturn, 1) := by decide +kernel
theorem dL_sign_15 : decode cL_sign 15 = .ok (.astore_n 3, 1) := by decide +kernel
theorem dL_sign_16 : decode cL_sign 16 = .ok (.iconst 2, 1) := by decide +kernel
theorem dL_sign_17 : decode cL_sign 17 = .ok (.ireturn, 1) := by decide +kernel
theorem dL_sign_18 : decode cL_sign 18 = .ok (.iconst 0, 1) := by decide +kernel
theorem dL_sign_19 : decode cL_sign 19 = .ok (.ireturn, 1) := by decide +kernel
theorem dL_rule_0 : decode cL_rule 0 = .ok (.aload_n 2, 1) := by decide +kernel
theorem dL_rule_1 : decode cL_rule 1 = .ok (.iconst 0, 1) := by decide +kernel
theorem dL_rule_2 : decode cL_rule 2 = .ok (.aload_n 0, 1) := by decide +kernel
theorem dL_rule_3 : decode cL_rule 3 = .ok (.iload_n 1, 1) := by decide +kernel
theorem dL_rule_4 : decode cL_rule 4 = .ok (.invokevirtual 17, 3) := by decide +kernel
theorem dL_rule_7 : decode cL_rule 7 = .ok (.ifCond .eq 7, 3) := by decide +kernel
theorem dL_rule_10 : decode cL_rule 10 = .ok (.lconst 1, 1) := by decide +kernel
theorem dL_rule_11 : decode cL_rule 11 = .ok (.goto 4, 3) := by decide +kernel
theorem dL_rule_14 : decode cL_rule 14 = .ok (.lconst 0, 1) := by decide +kernel
theorem dL_rule_15 : decode cL_rule 15 = .ok (.lastore, 1) := by decide +kernel
theorem dL_rule_16 : decode cL_rule 16 = .ok (.goto 6, 3) := by decide +kernel
theorem dL_rule_19 : decode cL_rule 19 = .ok (.astore_n 3, 1) := by decide +kernel
theorem dL_rule_20 : decode cL_rule 20 = .ok (.iconst 1, 1) := by decide +kernel
theorem dL_rule_21 : decode cL_rule 21 = .ok (.ireturn, 1) := by decide +kernel
theorem dL_rule_22 : decode cL_rule 22 = .ok (.iconst 0, 1) := by decide +kernel
theorem dL_rule_23 : decode cL_rule 23 = .ok (.ireturn, 1) := by decide +kernel
theorem dL_article_0 : decode cL_article 0 = .ok (.aload_n 3, 1) := by decide +kernel
theorem dL_article_1 : decode cL_article 1 = .ok (.iconst 0, 1) := by decide +kernel
theorem dL_article_2 : decode cL_article 2 = .ok (.aload_n 0, 1) := by decide +kernel
theorem dL_article_3 : decode cL_article 3 = .ok (.iload_n 1, 1) := by decide +kernel
theorem dL_article_4 : decode cL_article 4 = .ok (.iload_n 2, 1) := by decide +kernel
theorem dL_article_5 : decode cL_article 5 = .ok (.invokevirtual 21, 3) := by decide +kernel
theorem dL_article_8 : decode cL_article 8 = .ok (.i2l, 1) := by decide +kernel
theorem dL_article_9 : decode cL_article 9 = .ok (.lastore, 1) := by decide +kernel
theorem dL_article_10 : decode cL_article 10 = .ok (.goto 15, 3) := by decide +kernel
theorem dL_article_13 : decode cL_article 13 = .ok (.astore 4, 2) := by decide +kernel
theorem dL_article_15 : decode cL_article 15 = .ok (.iconst 1, 1) := by decide +kernel
theorem dL_article_16 : decode cL_article 16 = .ok (.ireturn, 1) := by decide +kernel
theorem dL_article_17 : decode cL_article 17 = .ok (.astore 4, 2) := by decide +kernel
theorem dL_article_19 : decode cL_article 19 = .ok (.iconst 2, 1) := by decide +kernel
theorem dL_article_20 : decode cL_article 20 = .ok (.ireturn, 1) := by decide +kernel
theorem dL_article_21 : decode cL_article 21 = .ok (.astore 4, 2) := by decide +kernel
theorem dL_article_23 : decode cL_article 23 = .ok (.iconst 3, 1) := by decide +kernel
theorem dL_article_24 : decode cL_article 24 = .ok (.ireturn, 1) := by decide +kernel
theorem dL_article_25 : decode cL_article 25 = .ok (.iconst 0, 1) := by decide +kernel
theorem dL_article_26 : decode cL_article 26 = .ok (.ireturn, 1) := by decide +kernel
theorem dL_under_0 : decode cL_under 0 = .ok (.aload_n 3, 1) := by decide +kernel
theorem dL_under_1 : decode cL_under 1 = .ok (.iconst 0, 1) := by decide +kernel
theorem dL_under_2 : decode cL_under 2 = .ok (.aload_n 0, 1) := by decide +kernel
theorem dL_under_3 : decode cL_under 3 = .ok (.iload_n 1, 1) := by decide +kernel
theorem dL_under_4 : decode cL_under 4 = .ok (.iload_n 2, 1) := by decide +kernel
theorem dL_under_5 : decode cL_under 5 = .ok (.invokevirtual 27, 3) := by decide +kernel
theorem dL_under_8 : decode cL_under 8 = .ok (.i2l, 1) := by decide +kernel
theorem dL_under_9 : decode cL_under 9 = .ok (.lastore, 1) := by decide +kernel
theorem dL_under_10 : decode cL_under 10 = .ok (.goto 11, 3) := by decide +kernel
theorem dL_under_13 : decode cL_under 13 = .ok (.astore 4, 2) := by decide +kernel
theorem dL_under_15 : decode cL_under 15 = .ok (.iconst 1, 1) := by decide +kernel
theorem dL_under_16 : decode cL_under 16 = .ok (.ireturn, 1) := by decide +kernel
theorem dL_under_17 : decode cL_under 17 = .ok (.astore 4, 2) := by decide +kernel
theorem dL_under_19 : decode cL_under 19 = .ok (.iconst 2, 1) := by decide +kernel
theorem dL_under_20 : decode cL_under 20 = .ok (.ireturn, 1) := by decide +kernel
theorem dL_under_21 : decode cL_under 21 = .ok (.iconst 0, 1) := by decide +kernel
theorem dL_under_22 : decode cL_under 22 = .ok (.ireturn, 1) := by decide +kernel
theorem dL_refer_0 : decode cL_refer 0 = .ok (.aload_n 2, 1) := by decide +kernel
theorem dL_refer_1 : decode cL_refer 1 = .ok (.iconst 0, 1) := by decide +kernel
theorem dL_refer_2 : decode cL_refer 2 = .ok (.aload_n 0, 1) := by decide +kernel
theorem dL_refer_3 : decode cL_refer 3 = .ok (.iload_n 1, 1) := by decide +kernel
theorem dL_refer_4 : decode cL_refer 4 = .ok (.invokevirtual 30, 3) := by decide +kernel
theorem dL_refer_7 : decode cL_refer 7 = .ok (.i2l, 1) := by decide +kernel
theorem dL_refer_8 : decode cL_refer 8 = .ok (.lastore, 1) := by decide +kernel
theorem dL_refer_9 : decode cL_refer 9 = .ok (.goto 9, 3) := by decide +kernel
theorem dL_refer_12 : decode cL_refer 12 = .ok (.astore_n 3, 1) := by decide +kernel
theorem dL_refer_13 : decode cL_refer 13 = .ok (.iconst 1, 1) := by decide +kernel
theorem dL_refer_14 : decode cL_refer 14 = .ok (.ireturn, 1) := by decide +kernel
theorem dL_refer_15 : decode cL_refer 15 = .ok (.astore_n 3, 1) := by decide +kernel
theorem dL_refer_16 : decode cL_refer 16 = .ok (.iconst 2, 1) := by decide +kernel
theorem dL_refer_17 : decode cL_refer 17 = .ok (.ireturn, 1) := by decide +kernel
theorem dL_refer_18 : decode cL_refer 18 = .ok (.iconst 0, 1) := by decide +kernel
theorem dL_refer_19 : decode cL_refer 19 = .ok (.ireturn, 1) := by decide +kernel
theorem dL_use_0 : decode cL_use 0 = .ok (.aload_n 3, 1) := by decide +kernel
theorem dL_use_1 : decode cL_use 1 = .ok (.iconst 0, 1) := by decide +kernel
theorem dL_use_2 : decode cL_use 2 = .ok (.aload_n 0, 1) := by decide +kernel
theorem dL_use_3 : decode cL_use 3 = .ok (.iload_n 1, 1) := by decide +kernel
theorem dL_use_4 : decode cL_use 4 = .ok (.iload_n 2, 1) := by decide +kernel
theorem dL_use_5 : decode cL_use 5 = .ok (.invokevirtual 34, 3) := by decide +kernel
theorem dL_use_8 : decode cL_use 8 = .ok (.ifCond .eq 7, 3) := by decide +kernel
theorem dL_use_11 : decode cL_use 11 = .ok (.lconst 1, 1) := by decide +kernel
theorem dL_use_12 : decode cL_use 12 = .ok (.goto 4, 3) := by decide +kernel
theorem dL_use_15 : decode cL_use 15 = .ok (.lconst 0, 1) := by decide +kernel
theorem dL_use_16 : decode cL_use 16 = .ok (.lastore, 1) := by decide +kernel
theorem dL_use_17 : decode cL_use 17 = .ok (.goto 11, 3) := by decide +kernel
theorem dL_use_20 : decode cL_use 20 = .ok (.astore 4, 2) := by decide +kernel
theorem dL_use_22 : decode cL_use 22 = .ok (.iconst 1, 1) := by decide +kernel
theorem dL_use_23 : decode cL_use 23 = .ok (.ireturn, 1) := by decide +kernel
theorem dL_use_24 : decode cL_use 24 = .ok (.astore 4, 2) := by decide +kernel
theorem dL_use_26 : decode cL_use 26 = .ok (.iconst 2, 1) := by decide +kernel
theorem dL_use_27 : decode cL_use 27 = .ok (.ireturn, 1) := by decide +kernel
theorem dL_use_28 : decode cL_use 28 = .ok (.iconst 0, 1) := by decide +kernel
theorem dL_use_29 : decode cL_use 29 = .ok (.ireturn, 1) := by decide +kernel
theorem dL_change_0 : decode cL_change 0 = .ok (.aload_n 3, 1) := by decide +kernel
theorem dL_change_1 : decode cL_change 1 = .ok (.iconst 0, 1) := by decide +kernel
theorem dL_change_2 : decode cL_change 2 = .ok (.aload_n 0, 1) := by decide +kernel
theorem dL_change_3 : decode cL_change 3 = .ok (.iload_n 1, 1) := by decide +kernel
theorem dL_change_4 : decode cL_change 4 = .ok (.iload_n 2, 1) := by decide +kernel
theorem dL_change_5 : decode cL_change 5 = .ok (.invokevirtual 38, 3) := by decide +kernel
theorem dL_change_8 : decode cL_change 8 = .ok (.i2l, 1) := by decide +kernel
theorem dL_change_9 : decode cL_change 9 = .ok (.lastore, 1) := by decide +kernel
theorem dL_change_10 : decode cL_change 10 = .ok (.goto 7, 3) := by decide +kernel
theorem dL_change_13 : decode cL_change 13 = .ok (.astore 4, 2) := by decide +kernel
theorem dL_change_15 : decode cL_change 15 = .ok (.iconst 1, 1) := by decide +kernel
theorem dL_change_16 : decode cL_change 16 = .ok (.ireturn, 1) := by decide +kernel
theorem dL_change_17 : decode cL_change 17 = .ok (.iconst 0, 1) := by decide +kernel
theorem dL_change_18 : decode cL_change 18 = .ok (.ireturn, 1) := by decide +kernel
theorem dL_forbid_0 : decode cL_forbid 0 = .ok (.aload_n 3, 1) := by decide +kernel
theorem dL_forbid_1 : decode cL_forbid 1 = .ok (.iconst 0, 1) := by decide +kernel
theorem dL_forbid_2 : decode cL_forbid 2 = .ok (.aload_n 0, 1) := by decide +kernel
theorem dL_forbid_3 : decode cL_forbid 3 = .ok (.iload_n 1, 1) := by decide +kernel
theorem dL_forbid_4 : decode cL_forbid 4 = .ok (.iload_n 2, 1) := by decide +kernel
theorem dL_forbid_5 : decode cL_forbid 5 = .ok (.invokevirtual 41, 3) := by decide +kernel
theorem dL_forbid_8 : decode cL_forbid 8 = .ok (.ifCond .eq 7, 3) := by decide +kernel
theorem dL_forbid_11 : decode cL_forbid 11 = .ok (.lconst 1, 1) := by decide +kernel
theorem dL_forbid_12 : decode cL_forbid 12 = .ok (.goto 4, 3) := by decide +kernel
theorem dL_forbid_15 : decode cL_forbid 15 = .ok (.lconst 0, 1) := by decide +kernel
theorem dL_forbid_16 : decode cL_forbid 16 = .ok (.lastore, 1) := by decide +kernel
theorem dL_forbid_17 : decode cL_forbid 17 = .ok (.goto 11, 3) := by decide +kernel
theorem dL_forbid_20 : decode cL_forbid 20 = .ok (.astore 4, 2) := by decide +kernel
theorem dL_forbid_22 : decode cL_forbid 22 = .ok (.iconst 1, 1) := by decide +kernel
theorem dL_forbid_23 : decode cL_forbid 23 = .ok (.ireturn, 1) := by decide +kernel
theorem dL_forbid_24 : decode cL_forbid 24 = .ok (.astore 4, 2) := by decide +kernel
theorem dL_forbid_26 : decode cL_forbid 26 = .ok (.iconst 2, 1) := by decide +kernel
theorem dL_forbid_27 : decode cL_forbid 27 = .ok (.ireturn, 1) := by decide +kernel
theorem dL_forbid_28 : decode cL_forbid 28 = .ok (.iconst 0, 1) := by decide +kernel
theorem dL_forbid_29 : decode cL_forbid 29 = .ok (.ireturn, 1) := by decide +kernel
theorem dL_volume_0 : decode cL_volume 0 = .ok (.aload_n 3, 1) := by decide +kernel
theorem dL_volume_1 : decode cL_volume 1 = .ok (.iconst 0, 1) := by decide +kernel
theorem dL_volume_2 : decode cL_volume 2 = .ok (.aload_n 0, 1) := by decide +kernel
theorem dL_volume_3 : decode cL_volume 3 = .ok (.iload_n 1, 1) := by decide +kernel
theorem dL_volume_4 : decode cL_volume 4 = .ok (.iload_n 2, 1) := by decide +kernel
theorem dL_volume_5 : decode cL_volume 5 = .ok (.invokevirtual 45, 3) := by decide +kernel
theorem dL_volume_8 : decode cL_volume 8 = .ok (.i2l, 1) := by decide +kernel
theorem dL_volume_9 : decode cL_volume 9 = .ok (.lastore, 1) := by decide +kernel
theorem dL_volume_10 : decode cL_volume 10 = .ok (.goto 11, 3) := by decide +kernel
theorem dL_volume_13 : decode cL_volume 13 = .ok (.astore 4, 2) := by decide +kernel
theorem dL_volume_15 : decode cL_volume 15 = .ok (.iconst 1, 1) := by decide +kernel
theorem dL_volume_16 : decode cL_volume 16 = .ok (.ireturn, 1) := by decide +kernel
theorem dL_volume_17 : decode cL_volume 17 = .ok (.astore 4, 2) := by decide +kernel
theorem dL_volume_19 : decode cL_volume 19 = .ok (.iconst 2, 1) := by decide +kernel
theorem dL_volume_20 : decode cL_volume 20 = .ok (.ireturn, 1) := by decide +kernel
theorem dL_volume_21 : decode cL_volume 21 = .ok (.iconst 0, 1) := by decide +kernel
theorem dL_volume_22 : decode cL_volume 22 = .ok (.ireturn, 1) := by decide +kernel
theorem dL_contributor_0 : decode cL_contributor 0 = .ok (.aload_n 2, 1) := by decide +kernel
theorem dL_contributor_1 : decode cL_contributor 1 = .ok (.iconst 0, 1) := by decide +kernel
theorem dL_contributor_2 : decode cL_contributor 2 = .ok (.aload_n 0, 1) := by decide +kernel
theorem dL_contributor_3 : decode cL_contributor 3 = .ok (.iload_n 1, 1) := by decide +kernel
theorem dL_contributor_4 : decode cL_contributor 4 = .ok (.invokevirtual 49, 3) := by decide +kernel
theorem dL_contributor_7 : decode cL_contributor 7 = .ok (.i2l, 1) := by decide +kernel
theorem dL_contributor_8 : decode cL_contributor 8 = .ok (.lastore, 1) := by decide +kernel
theorem dL_contributor_9 : decode cL_contributor 9 = .ok (.goto 9, 3) := by decide +kernel
theorem dL_contributor_12 : decode cL_contributor 12 = .ok (.astore_n 3, 1) := by decide +kernel
theorem dL_contributor_13 : decode cL_contributor 13 = .ok (.iconst 1, 1) := by decide +kernel
theorem dL_contributor_14 : decode cL_contributor 14 = .ok (.ireturn, 1) := by decide +kernel
theorem dL_contributor_15 : decode cL_contributor 15 = .ok (.astore_n 3, 1) := by decide +kernel
theorem dL_contributor_16 : decode cL_contributor 16 = .ok (.iconst 2, 1) := by decide +kernel
theorem dL_contributor_17 : decode cL_contributor 17 = .ok (.ireturn, 1) := by decide +kernel
theorem dL_contributor_18 : decode cL_contributor 18 = .ok (.iconst 0, 1) := by decide +kernel
theorem dL_contributor_19 : decode cL_contributor 19 = .ok (.ireturn, 1) := by decide +kernel
theorem dL_quarrel_0 : decode cL_quarrel 0 = .ok (.aload_n 3, 1) := by decide +kernel
theorem dL_quarrel_1 : decode cL_quarrel 1 = .ok (.iconst 0, 1) := by decide +kernel
theorem dL_quarrel_2 : decode cL_quarrel 2 = .ok (.aload_n 0, 1) := by decide +kernel
theorem dL_quarrel_3 : decode cL_quarrel 3 = .ok (.iload_n 1, 1) := by decide +kernel
theorem dL_quarrel_4 : decode cL_quarrel 4 = .ok (.iload_n 2, 1) := by decide +kernel
theorem dL_quarrel_5 : decode cL_quarrel 5 = .ok (.invokevirtual 52, 3) := by decide +kernel
theorem dL_quarrel_8 : decode cL_quarrel 8 = .ok (.ifCond .eq 7, 3) := by decide +kernel
theorem dL_quarrel_11 : decode cL_quarrel 11 = .ok (.lconst 1, 1) := by decide +kernel
theorem dL_quarrel_12 : decode cL_quarrel 12 = .ok (.goto 4, 3) := by decide +kernel
theorem dL_quarrel_15 : decode cL_quarrel 15 = .ok (.lconst 0, 1) := by decide +kernel
theorem dL_quarrel_16 : decode cL_quarrel 16 = .ok (.lastore, 1) := by decide +kernel
theorem dL_quarrel_17 : decode cL_quarrel 17 = .ok (.goto 11, 3) := by decide +kernel
theorem dL_quarrel_20 : decode cL_quarrel 20 = .ok (.astore 4, 2) := by decide +kernel
theorem dL_quarrel_22 : decode cL_quarrel 22 = .ok (.iconst 1, 1) := by decide +kernel
theorem dL_quarrel_23 : decode cL_quarrel 23 = .ok (.ireturn, 1) := by decide +kernel
theorem dL_quarrel_24 : decode cL_quarrel 24 = .ok (.astore 4, 2) := by decide +kernel
theorem dL_quarrel_26 : decode cL_quarrel 26 = .ok (.iconst 2, 1) := by decide +kernel
theorem dL_quarrel_27 : decode cL_quarrel 27 = .ok (.ireturn, 1) := by decide +kernel
theorem dL_quarrel_28 : decode cL_quarrel 28 = .ok (.iconst 0, 1) := by decide +kernel
theorem dL_quarrel_29 : decode cL_quarrel 29 = .ok (.ireturn, 1) := by decide +kernel
theorem dL_give_0 : decode cL_give 0 = .ok (.aload_n 3, 1) := by decide +kernel
theorem dL_give_1 : decode cL_give 1 = .ok (.iconst 0, 1) := by decide +kernel
theorem dL_give_2 : decode cL_give 2 = .ok (.aload_n 0, 1) := by decide +kernel
theorem dL_give_3 : decode cL_give 3 = .ok (.iload_n 1, 1) := by decide +kernel
theorem dL_give_4 : decode cL_give 4 = .ok (.iload_n 2, 1) := by decide +kernel
theorem dL_give_5 : decode cL_give 5 = .ok (.invokevirtual 55, 3) := by decide +kernel
theorem dL_give_8 : decode cL_give 8 = .ok (.i2l, 1) := by decide +kernel
theorem dL_give_9 : decode cL_give 9 = .ok (.lastore, 1) := by decide +kernel
theorem dL_give_10 : decode cL_give 10 = .ok (.goto 11, 3) := by decide +kernel
theorem dL_give_13 : decode cL_give 13 = .ok (.astore 4, 2) := by decide +kernel
theorem dL_give_15 : decode cL_give 15 = .ok (.iconst 1, 1) := by decide +kernel
theorem dL_give_16 : decode cL_give 16 = .ok (.ireturn, 1) := by decide +kernel
theorem dL_give_17 : decode cL_give 17 = .ok (.astore 4, 2) := by decide +kernel
theorem dL_give_19 : decode cL_give 19 = .ok (.iconst 2, 1) := by decide +kernel
theorem dL_give_20 : decode cL_give 20 = .ok (.ireturn, 1) := by decide +kernel
theorem dL_give_21 : decode cL_give 21 = .ok (.iconst 0, 1) := by decide +kernel
theorem dL_give_22 : decode cL_give 22 = .ok (.ireturn, 1) := by decide +kernel
theorem dL_die_0 : decode cL_die 0 = .ok (.aload_n 2, 1) := by decide +kernel
theorem dL_die_1 : decode cL_die 1 = .ok (.iconst 0, 1) := by decide +kernel
theorem dL_die_2 : decode cL_die 2 = .ok (.aload_n 0, 1) := by decide +kernel
theorem dL_die_3 : decode cL_die 3 = .ok (.iload_n 1, 1) := by decide +kernel
theorem dL_die_4 : decode cL_die 4 = .ok (.invokevirtual 58, 3) := by decide +kernel
theorem dL_die_7 : decode cL_die 7 = .ok (.i2l, 1) := by decide +kernel
theorem dL_die_8 : decode cL_die 8 = .ok (.lastore, 1) := by decide +kernel
theorem dL_die_9 : decode cL_die 9 = .ok (.goto 9, 3) := by decide +kernel
theorem dL_die_12 : decode cL_die 12 = .ok (.astore_n 3, 1) := by decide +kernel
theorem dL_die_13 : decode cL_die 13 = .ok (.iconst 1, 1) := by decide +kernel
theorem dL_die_14 : decode cL_die 14 = .ok (.ireturn, 1) := by decide +kernel
theorem dL_die_15 : decode cL_die 15 = .ok (.astore_n 3, 1) := by decide +kernel
theorem dL_die_16 : decode cL_die 16 = .ok (.iconst 2, 1) := by decide +kernel
theorem dL_die_17 : decode cL_die 17 = .ok (.ireturn, 1) := by decide +kernel
theorem dL_die_18 : decode cL_die 18 = .ok (.iconst 0, 1) := by decide +kernel
theorem dL_die_19 : decode cL_die 19 = .ok (.ireturn, 1) := by decide +kernel
theorem dL_pass_0 : decode cL_pass 0 = .ok (.aload_n 2, 1) := by decide +kernel
theorem dL_pass_1 : decode cL_pass 1 = .ok (.iconst 0, 1) := by decide +kernel
theorem dL_pass_2 : decode cL_pass 2 = .ok (.aload_n 0, 1) := by decide +kernel
theorem dL_pass_3 : decode cL_pass 3 = .ok (.iload_n 1, 1) := by decide +kernel
theorem dL_pass_4 : decode cL_pass 4 = .ok (.invokevirtual 61, 3) := by decide +kernel
theorem dL_pass_7 : decode cL_pass 7 = .ok (.i2l, 1) := by decide +kernel
theorem dL_pass_8 : decode cL_pass 8 = .ok (.lastore, 1) := by decide +kernel
theorem dL_pass_9 : decode cL_pass 9 = .ok (.goto 6, 3) := by decide +kernel
theorem dL_pass_12 : decode cL_pass 12 = .ok (.astore_n 3, 1) := by decide +kernel
theorem dL_pass_13 : decode cL_pass 13 = .ok (.iconst 1, 1) := by decide +kernel
theorem dL_pass_14 : decode cL_pass 14 = .ok (.ireturn, 1) := by decide +kernel
theorem dL_pass_15 : decode cL_pass 15 = .ok (.iconst 0, 1) := by decide +kernel
theorem dL_pass_16 : decode cL_pass 16 = .ok (.ireturn, 1) := by decide +kernel
theorem dL_print_0 : decode cL_print 0 = .ok (.aload_n 2, 1) := by decide +kernel
theorem dL_print_1 : decode cL_print 1 = .ok (.iconst 0, 1) := by decide +kernel
theorem dL_print_2 : decode cL_print 2 = .ok (.aload_n 0, 1) := by decide +kernel
theorem dL_print_3 : decode cL_print 3 = .ok (.iload_n 1, 1) := by decide +kernel
theorem dL_print_4 : decode cL_print 4 = .ok (.invokevirtual 64, 3) := by decide +kernel
theorem dL_print_7 : decode cL_print 7 = .ok (.i2l, 1) := by decide +kernel
theorem dL_print_8 : decode cL_print 8 = .ok (.lastore, 1) := by decide +kernel
theorem dL_print_9 : decode cL_print 9 = .ok (.goto 9, 3) := by decide +kernel
theorem dL_print_12 : decode cL_print 12 = .ok (.astore_n 3, 1) := by decide +kernel
theorem dL_print_13 : decode cL_print 13 = .ok (.iconst 1, 1) := by decide +kernel
theorem dL_print_14 : decode cL_print 14 = .ok (.ireturn, 1) := by decide +kernel
theorem dL_print_15 : decode cL_print 15 = .ok (.astore_n 3, 1) := by decide +kernel
theorem dL_print_16 : decode cL_print 16 = .ok (.iconst 2, 1) := by decide +kernel
theorem dL_print_17 : decode cL_print 17 = .ok (.ireturn, 1) := by decide +kernel
theorem dL_print_18 : decode cL_print 18 = .ok (.iconst 0, 1) := by decide +kernel
theorem dL_print_19 : decode cL_print 19 = .ok (.ireturn, 1) := by decide +kernel
theorem dL_supplement_0 : decode cL_supplement 0 = .ok (.aload_n 1, 1) := by decide +kernel
theorem dL_supplement_1 : decode cL_supplement 1 = .ok (.iconst 0, 1) := by decide +kernel
theorem dL_supplement_2 : decode cL_supplement 2 = .ok (.aload_n 0, 1) := by decide +kernel
theorem dL_supplement_3 : decode cL_supplement 3 = .ok (.invokevirtual 67, 3) := by decide +kernel
theorem dL_supplement_6 : decode cL_supplement 6 = .ok (.i2l, 1) := by decide +kernel
theorem dL_supplement_7 : decode cL_supplement 7 = .ok (.lastore, 1) := by decide +kernel
theorem dL_supplement_8 : decode cL_supplement 8 = .ok (.goto 6, 3) := by decide +kernel
theorem dL_supplement_11 : decode cL_supplement 11 = .ok (.astore_n 2, 1) := by decide +kernel
theorem dL_supplement_12 : decode cL_supplement 12 = .ok (.iconst 1, 1) := by decide +kernel
theorem dL_supplement_13 : decode cL_supplement 13 = .ok (.ireturn, 1) := by decide +kernel
theorem dL_supplement_14 : decode cL_supplement 14 = .ok (.iconst 0, 1) := by decide +kernel
theorem dL_supplement_15 : decode cL_supplement 15 = .ok (.ireturn, 1) := by decide +kernel
theorem dL_at_0 : decode cL_at 0 = .ok (.aload_n 2, 1) := by decide +kernel
theorem dL_at_1 : decode cL_at 1 = .ok (.iconst 0, 1) := by decide +kernel
theorem dL_at_2 : decode cL_at 2 = .ok (.aload_n 0, 1) := by decide +kernel
theorem dL_at_3 : decode cL_at 3 = .ok (.iload_n 1, 1) := by decide +kernel
theorem dL_at_4 : decode cL_at 4 = .ok (.invokevirtual 71, 3) := by decide +kernel
theorem dL_at_7 : decode cL_at 7 = .ok (.i2l, 1) := by decide +kernel
theorem dL_at_8 : decode cL_at 8 = .ok (.lastore, 1) := by decide +kernel
theorem dL_at_9 : decode cL_at 9 = .ok (.goto 6, 3) := by decide +kernel
theorem dL_at_12 : decode cL_at 12 = .ok (.astore_n 3, 1) := by decide +kernel
theorem dL_at_13 : decode cL_at 13 = .ok (.iconst 1, 1) := by decide +kernel
theorem dL_at_14 : decode cL_at 14 = .ok (.ireturn, 1) := by decide +kernel
theorem dL_at_15 : decode cL_at 15 = .ok (.iconst 0, 1) := by decide +kernel
theorem dL_at_16 : decode cL_at 16 = .ok (.ireturn, 1) := by decide +kernel
theorem dL_about_0 : decode cL_about 0 = .ok (.aload_n 3, 1) := by decide +kernel
theorem dL_about_1 : decode cL_about 1 = .ok (.iconst 0, 1) := by decide +kernel
theorem dL_about_2 : decode cL_about 2 = .ok (.aload_n 0, 1) := by decide +kernel
theorem dL_about_3 : decode cL_about 3 = .ok (.iload_n 1, 1) := by decide +kernel
theorem dL_about_4 : decode cL_about 4 = .ok (.iload_n 2, 1) := by decide +kernel
theorem dL_about_5 : decode cL_about 5 = .ok (.invokevirtual 74, 3) := by decide +kernel
theorem dL_about_8 : decode cL_about 8 = .ok (.i2l, 1) := by decide +kernel
theorem dL_about_9 : decode cL_about 9 = .ok (.lastore, 1) := by decide +kernel
theorem dL_about_10 : decode cL_about 10 = .ok (.goto 11, 3) := by decide +kernel
theorem dL_about_13 : decode cL_about 13 = .ok (.astore 4, 2) := by decide +kernel
theorem dL_about_15 : decode cL_about 15 = .ok (.iconst 1, 1) := by decide +kernel
theorem dL_about_16 : decode cL_about 16 = .ok (.ireturn, 1) := by decide +kernel
theorem dL_about_17 : decode cL_about 17 = .ok (.astore 4, 2) := by decide +kernel
theorem dL_about_19 : decode cL_about 19 = .ok (.iconst 2, 1) := by decide +kernel
theorem dL_about_20 : decode cL_about 20 = .ok (.ireturn, 1) := by decide +kernel
theorem dL_about_21 : decode cL_about 21 = .ok (.iconst 0, 1) := by decide +kernel
theorem dL_about_22 : decode cL_about 22 = .ok (.ireturn, 1) := by decide +kernel
theorem dL_errata_0 : decode cL_errata 0 = .ok (.aload_n 2, 1) := by decide +kernel
theorem dL_errata_1 : decode cL_errata 1 = .ok (.iconst 0, 1) := by decide +kernel
theorem dL_errata_2 : decode cL_errata 2 = .ok (.aload_n 0, 1) := by decide +kernel
theorem dL_errata_3 : decode cL_errata 3 = .ok (.iload_n 1, 1) := by decide +kernel
theorem dL_errata_4 : decode cL_errata 4 = .ok (.invokevirtual 77, 3) := by decide +kernel
theorem dL_errata_7 : decode cL_errata 7 = .ok (.i2l, 1) := by decide +kernel
theorem dL_errata_8 : decode cL_errata 8 = .ok (.lastore, 1) := by decide +kernel
theorem dL_errata_9 : decode cL_errata 9 = .ok (.goto 6, 3) := by decide +kernel
theorem dL_errata_12 : decode cL_errata 12 = .ok (.astore_n 3, 1) := by decide +kernel
theorem dL_errata_13 : decode cL_errata 13 = .ok (.iconst 1, 1) := by decide +kernel
theorem dL_errata_14 : decode cL_errata 14 = .ok (.ireturn, 1) := by decide +kernel
theorem dL_errata_15 : decode cL_errata 15 = .ok (.iconst 0, 1) := by decide +kernel
theorem dL_errata_16 : decode cL_errata 16 = .ok (.ireturn, 1) := by decide +kernel
theorem dL_synopsis_0 : decode cL_synopsis 0 = .ok (.aload_n 2, 1) := by decide +kernel
theorem dL_synopsis_1 : decode cL_synopsis 1 = .ok (.iconst 0, 1) := by decide +kernel
theorem dL_synopsis_2 : decode cL_synopsis 2 = .ok (.aload_n 0, 1) := by decide +kernel
theorem dL_synopsis_3 : decode cL_synopsis 3 = .ok (.iload_n 1, 1) := by decide +kernel
theorem dL_synopsis_4 : decode cL_synopsis 4 = .ok (.invokevirtual 80, 3) := by decide +kernel
theorem dL_synopsis_7 : decode cL_synopsis 7 = .ok (.i2l, 1) := by decide +kernel
theorem dL_synopsis_8 : decode cL_synopsis 8 = .ok (.lastore, 1) := by decide +kernel
theorem dL_synopsis_9 : decode cL_synopsis 9 = .ok (.goto 6, 3) := by decide +kernel
theorem dL_synopsis_12 : decode cL_synopsis 12 = .ok (.astore_n 3, 1) := by decide +kernel
theorem dL_synopsis_13 : decode cL_synopsis 13 = .ok (.iconst 1, 1) := by decide +kernel
theorem dL_synopsis_14 : decode cL_synopsis 14 = .ok (.ireturn, 1) := by decide +kernel
theorem dL_synopsis_15 : decode cL_synopsis 15 = .ok (.iconst 0, 1) := by decide +kernel
theorem dL_synopsis_16 : decode cL_synopsis 16 = .ok (.ireturn, 1) := by decide +kernel
end
section
theorem dX7_init_0 : decode cX7_init 0 = .ok (.aload_n 0, 1) := by decide +kernel
theorem dX7_init_1 : decode cX7_init 1 = .ok (.invokespecial 1, 3) := by decide +kernel
theorem dX7_init_4 : decode cX7_init 4 = .ok (.aload_n 0, 1) := by decide +kernel
theorem dX7_init_5 : decode cX7_init 5 = .ok (.sipush 1000, 3) := by decide +kernel
theorem dX7_init_8 : decode cX7_init 8 = .ok (.newarray .int, 2) := by decide +kernel
theorem dX7_init_10 : decode cX7_init 10 = .ok (.putfield 7, 3) := by decide +kernel
theorem dX7_init_13 : decode cX7_init 13 = .ok (.aload_n 0, 1) := by decide +kernel
theorem dX7_init_14 : decode cX7_init 14 = .ok (.bipush 125, 2) := by decide +kernel
theorem dX7_init_16 : decode cX7_init 16 = .ok (.newarray .int, 2) := by decide +kernel
theorem dX7_init_18 : decode cX7_init 18 = .ok (.putfield 13, 3) := by decide +kernel
theorem dX7_init_21 : decode cX7_init 21 = .ok (.aload_n 0, 1) := by decide +kernel
theorem dX7_init_22 : decode cX7_init 22 = .ok (.bipush 24, 2) := by decide +kernel
theorem dX7_init_24 : decode cX7_init 24 = .ok (.newarray .int, 2) := by decide +kernel
theorem dX7_init_26 : decode cX7_init 26 = .ok (.putfield 16, 3) := by decide +kernel
theorem dX7_init_29 : decode cX7_init 29 = .ok (.aload_n 0, 1) := by decide +kernel
theorem dX7_init_30 : decode cX7_init 30 = .ok (.bipush 24, 2) := by decide +kernel
theorem dX7_init_32 : decode cX7_init 32 = .ok (.newarray .int, 2) := by decide +kernel
theorem dX7_init_34 : decode cX7_init 34 = .ok (.putfield 19, 3) := by decide +kernel
theorem dX7_init_37 : decode cX7_init 37 = .ok (.aload_n 0, 1) := by decide +kernel
theorem dX7_init_38 : decode cX7_init 38 = .ok (.bipush 24, 2) := by decide +kernel
theorem dX7_init_40 : decode cX7_init 40 = .ok (.newarray .int, 2) := by decide +kernel
theorem dX7_init_42 : decode cX7_init 42 = .ok (.putfield 22, 3) := by decide +kernel
theorem dX7_init_45 : decode cX7_init 45 = .ok (.aload_n 0, 1) := by decide +kernel
theorem dX7_init_46 : decode cX7_init 46 = .ok (.bipush 24, 2) := by decide +kernel
theorem dX7_init_48 : decode cX7_init 48 = .ok (.newarray .int, 2) := by decide +kernel
theorem dX7_init_50 : decode cX7_init 50 = .ok (.putfield 25, 3) := by decide +kernel
theorem dX7_init_53 : decode cX7_init 53 = .ok (.aload_n 0, 1) := by decide +kernel
theorem dX7_init_54 : decode cX7_init 54 = .ok (.bipush 24, 2) := by decide +kernel
theorem dX7_init_56 : decode cX7_init 56 = .ok (.newarray .int, 2) := by decide +kernel
theorem dX7_init_58 : decode cX7_init 58 = .ok (.putfield 28, 3) := by decide +kernel
theorem dX7_init_61 : decode cX7_init 61 = .ok (.aload_n 0, 1) := by decide +kernel
theorem dX7_init_62 : decode cX7_init 62 = .ok (.bipush 24, 2) := by decide +kernel
theorem dX7_init_64 : decode cX7_init 64 = .ok (.newarray .int, 2) := by decide +kernel
theorem dX7_init_66 : decode cX7_init 66 = .ok (.putfield 31, 3) := by decide +kernel
theorem dX7_init_69 : decode cX7_init 69 = .ok (.aload_n 0, 1) := by decide +kernel
theorem dX7_init_70 : decode cX7_init 70 = .ok (.bipush 24, 2) := by decide +kernel
theorem dX7_init_72 : decode cX7_init 72 = .ok (.newarray .boolean, 2) := by decide +kernel
theorem dX7_init_74 : decode cX7_init 74 = .ok (.putfield 34, 3) := by decide +kernel
theorem dX7_init_77 : decode cX7_init 77 = .ok (.aload_n 0, 1) := by decide +kernel
theorem dX7_init_78 : decode cX7_init 78 = .ok (.bipush 24, 2) := by decide +kernel
theorem dX7_init_80 : decode cX7_init 80 = .ok (.newarray .int, 2) := by decide +kernel
theorem dX7_init_82 : decode cX7_init 82 = .ok (.putfield 38, 3) := by decide +kernel
theorem dX7_init_85 : decode cX7_init 85 = .ok (.aload_n 0, 1) := by decide +kernel
theorem dX7_init_86 : decode cX7_init 86 = .ok (.bipush 96, 2) := by decide +kernel
theorem dX7_init_88 : decode cX7_init 88 = .ok (.newarray .int, 2) := by decide +kernel
theorem dX7_init_90 : decode cX7_init 90 = .ok (.putfield 41, 3) := by decide +kernel
theorem dX7_init_93 : decode cX7_init 93 = .ok (.aload_n 0, 1) := by decide +kernel
theorem dX7_init_94 : decode cX7_init 94 = .ok (.sipush 192, 3) := by decide +kernel
theorem dX7_init_97 : decode cX7_init 97 = .ok (.newarray .boolean, 2) := by decide +kernel
theorem dX7_init_99 : decode cX7_init 99 = .ok (.putfield 44, 3) := by decide +kernel
theorem dX7_init_102 : decode cX7_init 102 = .ok (.aload_n 0, 1) := by decide +kernel
theorem dX7_init_103 : decode cX7_init 103 = .ok (.sipush 192, 3) := by decide +kernel
theorem dX7_init_106 : decode cX7_init 106 = .ok (.newarray .int, 2) := by decide +kernel
theorem dX7_init_108 : decode cX7_init 108 = .ok (.putfield 47, 3) := by decide +kernel
theorem dX7_init_111 : decode cX7_init 111 = .ok (.aload_n 0, 1) := by decide +kernel
theorem dX7_init_112 : decode cX7_init 112 = .ok (.bipush 10, 2) := by decide +kernel
theorem dX7_init_114 : decode cX7_init 114 = .ok (.newarray .int, 2) := by decide +kernel
theorem dX7_init_116 : decode cX7_init 116 = .ok (.putfield 50, 3) := by decide +kernel
theorem dX7_init_119 : decode cX7_init 119 = .ok (.aload_n 0, 1) := by decide +kernel
theorem dX7_init_120 : decode cX7_init 120 = .ok (.bipush 8, 2) := by decide +kernel
theorem dX7_init_122 : decode cX7_init 122 = .ok (.newarray .int, 2) := by decide +kernel
theorem dX7_init_124 : decode cX7_init 124 = .ok (.putfield 53, 3) := by decide +kernel
theorem dX7_init_127 : decode cX7_init 127 = .ok (.aload_n 0, 1) := by decide +kernel
theorem dX7_init_128 : decode cX7_init 128 = .ok (.iconst 4, 1) := by decide +kernel
theorem dX7_init_129 : decode cX7_init 129 = .ok (.newarray .int, 2) := by decide +kernel
theorem dX7_init_131 : decode cX7_init 131 = .ok (.putfield 56, 3) := by decide +kernel
theorem dX7_init_134 : decode cX7_init 134 = .ok (.aload_n 0, 1) := by decide +kernel
theorem dX7_init_135 : decode cX7_init 135 = .ok (.iconst 4, 1) := by decide +kernel
theorem dX7_init_136 : decode cX7_init 136 = .ok (.newarray .int, 2) := by decide +kernel
theorem dX7_init_138 : decode cX7_init 138 = .ok (.putfield 59, 3) := by decide +kernel
theorem dX7_init_141 : decode cX7_init 141 = .ok (.aload_n 0, 1) := by decide +kernel
theorem dX7_init_142 : decode cX7_init 142 = .ok (.bipush 6, 2) := by decide +kernel
theorem dX7_init_144 : decode cX7_init 144 = .ok (.newarray .int, 2) := by decide +kernel
theorem dX7_init_146 : decode cX7_init 146 = .ok (.putfield 62, 3) := by decide +kernel
theorem dX7_init_149 : decode cX7_init 149 = .ok (.aload_n 0, 1) := by decide +kernel
theorem dX7_init_150 : decode cX7_init 150 = .ok (.bipush 6, 2) := by decide +kernel
theorem dX7_init_152 : decode cX7_init 152 = .ok (.newarray .boolean, 2) := by decide +kernel
theorem dX7_init_154 : decode cX7_init 154 = .ok (.putfield 65, 3) := by decide +kernel
theorem dX7_init_157 : decode cX7_init 157 = .ok (.aload_n 0, 1) := by decide +kernel
theorem dX7_init_158 : decode cX7_init 158 = .ok (.bipush 36, 2) := by decide +kernel
theorem dX7_init_160 : decode cX7_init 160 = .ok (.newarray .boolean, 2) := by decide +kernel
theorem dX7_init_162 : decode cX7_init 162 = .ok (.putfield 68, 3) := by decide +kernel
theorem dX7_init_165 : decode cX7_init 165 = .ok (.aload_n 0, 1) := by decide +kernel
theorem dX7_init_166 : decode cX7_init 166 = .ok (.bipush 6, 2) := by decide +kernel
theorem dX7_init_168 : decode cX7_init 168 = .ok (.newarray .int, 2) := by decide +kernel
theorem dX7_init_170 : decode cX7_init 170 = .ok (.putfield 71, 3) := by decide +kernel
theorem dX7_init_173 : decode cX7_init 173 = .ok (.iconst 0, 1) := by decide +kernel
theorem dX7_init_174 : decode cX7_init 174 = .ok (.istore_n 1, 1) := by decide +kernel
theorem dX7_init_175 : decode cX7_init 175 = .ok (.iload_n 1, 1) := by decide +kernel
theorem dX7_init_176 : decode cX7_init 176 = .ok (.bipush 10, 2) := by decide +kernel
theorem dX7_init_178 : decode cX7_init 178 = .ok (.if_icmp .ge 16, 3) := by decide +kernel
theorem dX7_init_181 : decode cX7_init 181 = .ok (.aload_n 0, 1) := by decide +kernel
theorem dX7_init_182 : decode cX7_init 182 = .ok (.getfield 50, 3) := by decide +kernel
theorem dX7_init_185 : decode cX7_init 185 = .ok (.iload_n 1, 1) := by decide +kernel
theorem dX7_init_186 : decode cX7_init 186 = .ok (.iconst (-1), 1) := by decide +kernel
theorem dX7_init_187 : decode cX7_init 187 = .ok (.iastore, 1) := by decide +kernel
theorem dX7_init_188 : decode cX7_init 188 = .ok (.iinc 1 1, 3) := by decide +kernel
theorem dX7_init_191 : decode cX7_init 191 = .ok (.goto (-16), 3) := by decide +kernel
theorem dX7_init_194 : decode cX7_init 194 = .ok (.return_, 1) := by decide +kernel
theorem dX7_thrown_0 : decode cX7_thrown 0 = .ok (.aload_n 0, 1) := by decide +kernel
theorem dX7_thrown_1 : decode cX7_thrown 1 = .ok (.getfield 74, 3) := by decide +kernel
theorem dX7_thrown_4 : decode cX7_thrown 4 = .ok (.ireturn, 1) := by decide +kernel
theorem dX7_goes_0 : decode cX7_goes 0 = .ok (.aload_n 0, 1) := by decide +kernel
theorem dX7_goes_1 : decode cX7_goes 1 = .ok (.iload_n 1, 1) := by decide +kernel
theorem dX7_goes_2 : decode cX7_goes 2 = .ok (.putfield 74, 3) := by decide +kernel
theorem dX7_goes_5 : decode cX7_goes 5 = .ok (.iload_n 1, 1) := by decide +kernel
theorem dX7_goes_6 : decode cX7_goes 6 = .ok (.ifCond .ne 7, 3) := by decide +kernel
theorem dX7_goes_9 : decode cX7_goes 9 = .ok (.iconst 1, 1) := by decide +kernel
theorem dX7_goes_10 : decode cX7_goes 10 = .ok (.goto 4, 3) := by decide +kernel
theorem dX7_goes_13 : decode cX7_goes 13 = .ok (.iconst 0, 1) := by decide +kernel
theorem dX7_goes_14 : decode cX7_goes 14 = .ok (.ireturn, 1) := by decide +kernel
theorem dX7_isIn_0 : decode cX7_isIn 0 = .ok (.iload_n 0, 1) := by decide +kernel
theorem dX7_isIn_1 : decode cX7_isIn 1 = .ok (.iload_n 1, 1) := by decide +kernel
theorem dX7_isIn_2 : decode cX7_isIn 2 = .ok (.if_icmp .lt 12, 3) := by decide +kernel
theorem dX7_isIn_5 : decode cX7_isIn 5 = .ok (.iload_n 0, 1) := by decide +kernel
theorem dX7_isIn_6 : decode cX7_isIn 6 = .ok (.iload_n 2, 1) := by decide +kernel
theorem dX7_isIn_7 : decode cX7_isIn 7 = .ok (.if_icmp .gt 7, 3) := by decide +kernel
theorem dX7_isIn_10 : decode cX7_isIn 10 = .ok (.iconst 1, 1) := by decide +kernel
theorem dX7_isIn_11 : decode cX7_isIn 11 = .ok (.goto 4, 3) := by decide +kernel
theorem dX7_isIn_14 : decode cX7_isIn 14 = .ok (.iconst 0, 1) := by decide +kernel
theorem dX7_isIn_15 : decode cX7_isIn 15 = .ok (.ireturn, 1) := by decide +kernel
theorem dX7_isArticle_0 : decode cX7_isArticle 0 = .ok (.iload_n 1, 1) := by decide +kernel
theorem dX7_isArticle_1 : decode cX7_isArticle 1 = .ok (.iconst 0, 1) := by decide +kernel
theorem dX7_isArticle_2 : decode cX7_isArticle 2 = .ok (.aload_n 0, 1) := by decide +kernel
theorem dX7_isArticle_3 : decode cX7_isArticle 3 = .ok (.getfield 78, 3) := by decide +kernel
theorem dX7_isArticle_6 : decode cX7_isArticle 6 = .ok (.iconst 1, 1) := by decide +kernel
theorem dX7_isArticle_7 : decode cX7_isArticle 7 = .ok (.isub, 1) := by decide +kernel
theorem dX7_isArticle_8 : decode cX7_isArticle 8 = .ok (.invokestatic 81, 3) := by decide +kernel
theorem dX7_isArticle_11 : decode cX7_isArticle 11 = .ok (.ireturn, 1) := by decide +kernel
theorem dX7_isContributor_0 : decode cX7_isContributor 0 = .ok (.iload_n 1, 1) := by decide +kernel
theorem dX7_isContributor_1 : decode cX7_isContributor 1 = .ok (.iconst 0, 1) := by decide +kernel
theorem dX7_isContributor_2 : decode cX7_isContributor 2 = .ok (.aload_n 0, 1) := by decide +kernel
theorem dX7_isContributor_3 : decode cX7_isContributor 3 = .ok (.getfield 85, 3) := by decide +kernel
theorem dX7_isContributor_6 : decode cX7_isContributor 6 = .ok (.iconst 1, 1) := by decide +kernel
theorem dX7_isContributor_7 : decode cX7_isContributor 7 = .ok (.isub, 1) := by decide +kernel
theorem dX7_isContributor_8 : decode cX7_isContributor 8 = .ok (.invokestatic 81, 3) := by decide +kernel
theorem dX7_isContributor_11 : decode cX7_isContributor 11 = .ok (.ireturn, 1) := by decide +kernel
theorem dX7_isSubject_0 : decode cX7_isSubject 0 = .ok (.iload_n 0, 1) := by decide +kernel
theorem dX7_isSubject_1 : decode cX7_isSubject 1 = .ok (.iconst 0, 1) := by decide +kernel
theorem dX7_isSubject_2 : decode cX7_isSubject 2 = .ok (.bipush 9, 2) := by decide +kernel
theorem dX7_isSubject_4 : decode cX7_isSubject 4 = .ok (.invokestatic 81, 3) := by decide +kernel
theorem dX7_isSubject_7 : decode cX7_isSubject 7 = .ok (.ireturn, 1) := by decide +kernel
theorem dX7_isFact_0 : decode cX7_isFact 0 = .ok (.iload_n 0, 1) := by decide +kernel
theorem dX7_isFact_1 : decode cX7_isFact 1 = .ok (.iconst 0, 1) := by decide +kernel
theorem dX7_isFact_2 : decode cX7_isFact 2 = .ok (.bipush 7, 2) := by decide +kernel
theorem dX7_isFact_4 : decode cX7_isFact 4 = .ok (.invokestatic 81, 3) := by decide +kernel
theorem dX7_isFact_7 : decode cX7_isFact 7 = .ok (.ireturn, 1) := by decide +kernel
theorem dX7_next_0 : decode cX7_next 0 = .ok (.iload_n 2, 1) := by decide +kernel
theorem dX7_next_1 : decode cX7_next 1 = .ok (.istore_n 3, 1) := by decide +kernel
theorem dX7_next_2 : decode cX7_next 2 = .ok (.iload_n 3, 1) := by decide +kernel
theorem dX7_next_3 : decode cX7_next 3 = .ok (.aload_n 0, 1) := by decide +kernel
theorem dX7_next_4 : decode cX7_next 4 = .ok (.getfield 13, 3) := by decide +kernel
theorem dX7_next_7 : decode cX7_next 7 = .ok (.iload_n 1, 1) := by decide +kernel
theorem dX7_next_8 : decode cX7_next 8 = .ok (.iaload, 1) := by decide +kernel
theorem dX7_next_9 : decode cX7_next 9 = .ok (.if_icmp .ge 30, 3) := by decide +kernel
theorem dX7_next_12 : decode cX7_next 12 = .ok (.aload_n 0, 1) := by decide +kernel
theorem dX7_next_13 : decode cX7_next 13 = .ok (.getfield 88, 3) := by decide +kernel
theorem dX7_next_16 : decode cX7_next 16 = .ok (.ifCond .ne 23, 3) := by decide +kernel
theorem dX7_next_19 : decode cX7_next 19 = .ok (.aload_n 0, 1) := by decide +kernel
theorem dX7_next_20 : decode cX7_next 20 = .ok (.getfield 7, 3) := by decide +kernel
theorem dX7_next_23 : decode cX7_next 23 = .ok (.bipush 8, 2) := by decide +kernel
theorem dX7_next_25 : decode cX7_next 25 = .ok (.iload_n 1, 1) := by decide +kernel
theorem dX7_next_26 : decode cX7_next 26 = .ok (.imul, 1) := by decide +kernel
theorem dX7_next_27 : decode cX7_next 27 = .ok (.iload_n 3, 1) := by decide +kernel
theorem dX7_next_28 : decode cX7_next 28 = .ok (.iadd, 1) := by decide +kernel
theorem dX7_next_29 : decode cX7_next 29 = .ok (.iaload, 1) := by decide +kernel
theorem dX7_next_30 : decode cX7_next 30 = .ok (.ifCond .ne 9, 3) := by decide +kernel
theorem dX7_next_33 : decode cX7_next 33 = .ok (.iinc 3 1, 3) := by decide +kernel
theorem dX7_next_36 : decode cX7_next 36 = .ok (.goto (-34), 3) := by decide +kernel
theorem dX7_next_39 : decode cX7_next 39 = .ok (.iload_n 3, 1) := by decide +kernel
theorem dX7_next_40 : decode cX7_next 40 = .ok (.ireturn, 1) := by decide +kernel
theorem dX7_order_0 : decode cX7_order 0 = .ok (.aload_n 0, 1) := by decide +kernel
theorem dX7_order_1 : decode cX7_order 1 = .ok (.iload_n 1, 1) := by decide +kernel
theorem dX7_order_2 : decode cX7_order 2 = .ok (.iconst 0, 1) := by decide +kernel
theorem dX7_order_3 : decode cX7_order 3 = .ok (.invokevirtual 92, 3) := by decide +kernel
theorem dX7_order_6 : decode cX7_order 6 = .ok (.istore_n 3, 1) := by decide +kernel
theorem dX7_order_7 : decode cX7_order 7 = .ok (.aload_n 0, 1) := by decide +kernel
theorem dX7_order_8 : decode cX7_order 8 = .ok (.iload_n 2, 1) := by decide +kernel
theorem dX7_order_9 : decode cX7_order 9 = .ok (.iconst 0, 1) := by decide +kernel
theorem dX7_order_10 : decode cX7_order 10 = .ok (.invokevirtual 92, 3) := by decide +kernel
theorem dX7_order_13 : decode cX7_order 13 = .ok (.istore 4, 2) := by decide +kernel
theorem dX7_order_15 : decode cX7_order 15 = .ok (.iload_n 3, 1) := by decide +kernel
theorem dX7_order_16 : decode cX7_order 16 = .ok (.aload_n 0, 1) := by decide +kernel
theorem dX7_order_17 : decode cX7_order 17 = .ok (.getfield 13, 3) := by decide +kernel
theorem dX7_order_20 : decode cX7_order 20 = .ok (.iload_n 1, 1) := by decide +kernel
theorem dX7_order_21 : decode cX7_order 21 = .ok (.iaload, 1) := by decide +kernel
theorem dX7_order_22 : decode cX7_order 22 = .ok (.if_icmp .ge 71, 3) := by decide +kernel
theorem dX7_order_25 : decode cX7_order 25 = .ok (.iload 4, 2) := by decide +kernel
theorem dX7_order_27 : decode cX7_order 27 = .ok (.aload_n 0, 1) := by decide +kernel
theorem dX7_order_28 : decode cX7_order 28 = .ok (.getfield 13, 3) := by decide +kernel
theorem dX7_order_31 : decode cX7_order 31 = .ok (.iload_n 2, 1) := by decide +kernel
theorem dX7_order_32 : decode cX7_order 32 = .ok (.iaload, 1) := by decide +kernel
theorem dX7_order_33 : decode cX7_order 33 = .ok (.if_icmp .ge 60, 3) := by decide +kernel
theorem dX7_order_36 : decode cX7_order 36 = .ok (.aload_n 0, 1) := by decide +kernel
theorem dX7_order_37 : decode cX7_order 37 = .ok (.getfield 7, 3) := by decide +kernel
theorem dX7_order_40 : decode cX7_order 40 = .ok (.bipush 8, 2) := by decide +kernel
theorem dX7_order_42 : decode cX7_order 42 = .ok (.iload_n 1, 1) := by decide +kernel
theorem dX7_order_43 : decode cX7_order 43 = .ok (.imul, 1) := by decide +kernel
theorem dX7_order_44 : decode cX7_order 44 = .ok (.iload_n 3, 1) := by decide +kernel
theorem dX7_order_45 : decode cX7_order 45 = .ok (.iadd, 1) := by decide +kernel
theorem dX7_order_46 : decode cX7_order 46 = .ok (.iaload, 1) := by decide +kernel
theorem dX7_order_47 : decode cX7_order 47 = .ok (.aload_n 0, 1) := by decide +kernel
theorem dX7_order_48 : decode cX7_order 48 = .ok (.getfield 7, 3) := by decide +kernel
theorem dX7_order_51 : decode cX7_order 51 = .ok (.bipush 8, 2) := by decide +kernel
theorem dX7_order_53 : decode cX7_order 53 = .ok (.iload_n 2, 1) := by decide +kernel
theorem dX7_order_54 : decode cX7_order 54 = .ok (.imul, 1) := by decide +kernel
theorem dX7_order_55 : decode cX7_order 55 = .ok (.iload 4, 2) := by decide +kernel
theorem dX7_order_57 : decode cX7_order 57 = .ok (.iadd, 1) := by decide +kernel
theorem dX7_order_58 : decode cX7_order 58 = .ok (.iaload, 1) := by decide +kernel
theorem dX7_order_59 : decode cX7_order 59 = .ok (.isub, 1) := by decide +kernel
theorem dX7_order_60 : decode cX7_order 60 = .ok (.istore 5, 2) := by decide +kernel
theorem dX7_order_62 : decode cX7_order 62 = .ok (.iload 5, 2) := by decide +kernel
theorem dX7_order_64 : decode cX7_order 64 = .ok (.ifCond .eq 6, 3) := by decide +kernel
theorem dX7_order_67 : decode cX7_order 67 = .ok (.iload 5, 2) := by decide +kernel
theorem dX7_order_69 : decode cX7_order 69 = .ok (.ireturn, 1) := by decide +kernel
theorem dX7_order_70 : decode cX7_order 70 = .ok (.aload_n 0, 1) := by decide +kernel
theorem dX7_order_71 : decode cX7_order 71 = .ok (.iload_n 1, 1) := by decide +kernel
theorem dX7_order_72 : decode cX7_order 72 = .ok (.iload_n 3, 1) := by decide +kernel
theorem dX7_order_73 : decode cX7_order 73 = .ok (.iconst 1, 1) := by decide +kernel
theorem dX7_order_74 : decode cX7_order 74 = .ok (.iadd, 1) := by decide +kernel
theorem dX7_order_75 : decode cX7_order 75 = .ok (.invokevirtual 92, 3) := by decide +kernel
theorem dX7_order_78 : decode cX7_order 78 = .ok (.istore_n 3, 1) := by decide +kernel
theorem dX7_order_79 : decode cX7_order 79 = .ok (.aload_n 0, 1) := by decide +kernel
theorem dX7_order_80 : decode cX7_order 80 = .ok (.iload_n 2, 1) := by decide +kernel
theorem dX7_order_81 : decode cX7_order 81 = .ok (.iload 4, 2) := by decide +kernel
theorem dX7_order_83 : decode cX7_order 83 = .ok (.iconst 1, 1) := by decide +kernel
theorem dX7_order_84 : decode cX7_order 84 = .ok (.iadd, 1) := by decide +kernel
theorem dX7_order_85 : decode cX7_order 85 = .ok (.invokevirtual 92, 3) := by decide +kernel
theorem dX7_order_88 : decode cX7_order 88 = .ok (.istore 4, 2) := by decide +kernel
theorem dX7_order_90 : decode cX7_order 90 = .ok (.goto (-75), 3) := by decide +kernel
theorem dX7_order_93 : decode cX7_order 93 = .ok (.iload_n 3, 1) := by decide +kernel
theorem dX7_order_94 : decode cX7_order 94 = .ok (.aload_n 0, 1) := by decide +kernel
theorem dX7_order_95 : decode cX7_order 95 = .ok (.getfield 13, 3) := by decide +kernel
theorem dX7_order_98 : decode cX7_order 98 = .ok (.iload_n 1, 1) := by decide +kernel
theorem dX7_order_99 : decode cX7_order 99 = .ok (.iaload, 1) := by decide +kernel
theorem dX7_order_100 : decode cX7_order 100 = .ok (.if_icmp .ge 7, 3) := by decide +kernel
theorem dX7_order_103 : decode cX7_order 103 = .ok (.iconst 1, 1) := by decide +kernel
theorem dX7_order_104 : decode cX7_order 104 = .ok (.goto 4, 3) := by decide +kernel
theorem dX7_order_107 : decode cX7_order 107 = .ok (.iconst 0, 1) := by decide +kernel
theorem dX7_order_108 : decode cX7_order 108 = .ok (.iload 4, 2) := by decide +kernel
theorem dX7_order_110 : decode cX7_order 110 = .ok (.aload_n 0, 1) := by decide +kernel
theorem dX7_order_111 : decode cX7_order 111 = .ok (.getfield 13, 3) := by decide +kernel
theorem dX7_order_114 : decode cX7_order 114 = .ok (.iload_n 2, 1) := by decide +kernel
theorem dX7_order_115 : decode cX7_order 115 = .ok (.iaload, 1) := by decide +kernel
theorem dX7_order_116 : decode cX7_order 116 = .ok (.if_icmp .ge 7, 3) := by decide +kernel
theorem dX7_order_119 : decode cX7_order 119 = .ok (.iconst 1, 1) := by decide +kernel
theorem dX7_order_120 : decode cX7_order 120 = .ok (.goto 4, 3) := by decide +kernel
theorem dX7_order_123 : decode cX7_order 123 = .ok (.iconst 0, 1) := by decide +kernel
theorem dX7_order_124 : decode cX7_order 124 = .ok (.isub, 1) := by decide +kernel
theorem dX7_order_125 : decode cX7_order 125 = .ok (.ireturn, 1) := by decide +kernel
theorem dX7_firstLetter_0 : decode cX7_firstLetter 0 = .ok (.iconst 0, 1) := by decide +kernel
theorem dX7_firstLetter_1 : decode cX7_firstLetter 1 = .ok (.istore_n 2, 1) := by decide +kernel
theorem dX7_firstLetter_2 : decode cX7_firstLetter 2 = .ok (.iload_n 2, 1) := by decide +kernel
theorem dX7_firstLetter_3 : decode cX7_firstLetter 3 = .ok (.aload_n 0, 1) := by decide +kernel
theorem dX7_firstLetter_4 : decode cX7_firstLetter 4 = .ok (.getfield 13, 3) := by decide +kernel
theorem dX7_firstLetter_7 : decode cX7_firstLetter 7 = .ok (.iload_n 1, 1) := by decide +kernel
theorem dX7_firstLetter_8 : decode cX7_firstLetter 8 = .ok (.iaload, 1) := by decide +kernel
theorem dX7_firstLetter_9 : decode cX7_firstLetter 9 = .ok (.if_icmp .ge 23, 3) := by decide +kernel
theorem dX7_firstLetter_12 : decode cX7_firstLetter 12 = .ok (.aload_n 0, 1) := by decide +kernel
theorem dX7_firstLetter_13 : decode cX7_firstLetter 13 = .ok (.getfield 7, 3) := by decide +kernel
theorem dX7_firstLetter_16 : decode cX7_firstLetter 16 = .ok (.bipush 8, 2) := by decide +kernel
theorem dX7_firstLetter_18 : decode cX7_firstLetter 18 = .ok (.iload_n 1, 1) := by decide +kernel
theorem dX7_firstLetter_19 : decode cX7_firstLetter 19 = .ok (.imul, 1) := by decide +kernel
theorem dX7_firstLetter_20 : decode cX7_firstLetter 20 = .ok (.iload_n 2, 1) := by decide +kernel
theorem dX7_firstLetter_21 : decode cX7_firstLetter 21 = .ok (.iadd, 1) := by decide +kernel
theorem dX7_firstLetter_22 : decode cX7_firstLetter 22 = .ok (.iaload, 1) := by decide +kernel
theorem dX7_firstLetter_23 : decode cX7_firstLetter 23 = .ok (.ifCond .ne 9, 3) := by decide +kernel
theorem dX7_firstLetter_26 : decode cX7_firstLetter 26 = .ok (.iinc 2 1, 3) := by decide +kernel
theorem dX7_firstLetter_29 : decode cX7_firstLetter 29 = .ok (.goto (-27), 3) := by decide +kernel
theorem dX7_firstLetter_32 : decode cX7_firstLetter 32 = .ok (.iload_n 2, 1) := by decide +kernel
theorem dX7_firstLetter_33 : decode cX7_firstLetter 33 = .ok (.aload_n 0, 1) := by decide +kernel
theorem dX7_firstLetter_34 : decode cX7_firstLetter 34 = .ok (.getfield 13, 3) := by decide +kernel
theorem dX7_firstLetter_37 : decode cX7_firstLetter 37 = .ok (.iload_n 1, 1) := by decide +kernel
theorem dX7_firstLetter_38 : decode cX7_firstLetter 38 = .ok (.iaload, 1) := by decide +kernel
theorem dX7_firstLetter_39 : decode cX7_firstLetter 39 = .ok (.if_icmp .ge 17, 3) := by decide +kernel
theorem dX7_firstLetter_42 : decode cX7_firstLetter 42 = .ok (.aload_n 0, 1) := by decide +kernel
theorem dX7_firstLetter_43 : decode cX7_firstLetter 43 = .ok (.getfield 7, 3) := by decide +kernel
theorem dX7_firstLetter_46 : decode cX7_firstLetter 46 = .ok (.bipush 8, 2) := by decide +kernel
theorem dX7_firstLetter_48 : decode cX7_firstLetter 48 = .ok (.iload_n 1, 1) := by decide +kernel
theorem dX7_firstLetter_49 : decode cX7_firstLetter 49 = .ok (.imul, 1) := by decide +kernel
theorem dX7_firstLetter_50 : decode cX7_firstLetter 50 = .ok (.iload_n 2, 1) := by decide +kernel
theorem dX7_firstLetter_51 : decode cX7_firstLetter 51 = .ok (.iadd, 1) := by decide +kernel
theorem dX7_firstLetter_52 : decode cX7_firstLetter 52 = .ok (.iaload, 1) := by decide +kernel
theorem dX7_firstLetter_53 : decode cX7_firstLetter 53 = .ok (.goto 4, 3) := by decide +kernel
theorem dX7_firstLetter_56 : decode cX7_firstLetter 56 = .ok (.iconst 0, 1) := by decide +kernel
theorem dX7_firstLetter_57 : decode cX7_firstLetter 57 = .ok (.ireturn, 1) := by decide +kernel
theorem dX7_volumeOf_0 : decode cX7_volumeOf 0 = .ok (.iconst 0, 1) := by decide +kernel
theorem dX7_volumeOf_1 : decode cX7_volumeOf 1 = .ok (.istore_n 2, 1) := by decide +kernel
theorem dX7_volumeOf_2 : decode cX7_volumeOf 2 = .ok (.iload_n 2, 1) := by decide +kernel
theorem dX7_volumeOf_3 : decode cX7_volumeOf 3 = .ok (.aload_n 0, 1) := by decide +kernel
theorem dX7_volumeOf_4 : decode cX7_volumeOf 4 = .ok (.getfield 96, 3) := by decide +kernel
theorem dX7_volumeOf_7 : decode cX7_volumeOf 7 = .ok (.if_icmp .ge 25, 3) := by decide +kernel
theorem dX7_volumeOf_10 : decode cX7_volumeOf 10 = .ok (.aload_n 0, 1) := by decide +kernel
theorem dX7_volumeOf_11 : decode cX7_volumeOf 11 = .ok (.getfield 56, 3) := by decide +kernel
theorem dX7_volumeOf_14 : decode cX7_volumeOf 14 = .ok (.iload_n 2, 1) := by decide +kernel
theorem dX7_volumeOf_15 : decode cX7_volumeOf 15 = .ok (.iaload, 1) := by decide +kernel
theorem dX7_volumeOf_16 : decode cX7_volumeOf 16 = .ok (.aload_n 0, 1) := by decide +kernel
theorem dX7_volumeOf_17 : decode cX7_volumeOf 17 = .ok (.iload_n 1, 1) := by decide +kernel
theorem dX7_volumeOf_18 : decode cX7_volumeOf 18 = .ok (.invokevirtual 99, 3) := by decide +kernel
theorem dX7_volumeOf_21 : decode cX7_volumeOf 21 = .ok (.if_icmp .lt 5, 3) := by decide +kernel
theorem dX7_volumeOf_24 : decode cX7_volumeOf 24 = .ok (.iload_n 2, 1) := by decide +kernel
theorem dX7_volumeOf_25 : decode cX7_volumeOf 25 = .ok (.ireturn, 1) := by decide +kernel
theorem dX7_volumeOf_26 : decode cX7_volumeOf 26 = .ok (.iinc 2 1, 3) := by decide +kernel
theorem dX7_volumeOf_29 : decode cX7_volumeOf 29 = .ok (.goto (-27), 3) := by decide +kernel
theorem dX7_volumeOf_32 : decode cX7_volumeOf 32 = .ok (.iconst (-1), 1) := by decide +kernel
theorem dX7_volumeOf_33 : decode cX7_volumeOf 33 = .ok (.ireturn, 1) := by decide +kernel
theorem dX7_takes_0 : decode cX7_takes 0 = .ok (.iconst 0, 1) := by decide +kernel
theorem dX7_takes_1 : decode cX7_takes 1 = .ok (.istore_n 2, 1) := by decide +kernel
theorem dX7_takes_2 : decode cX7_takes 2 = .ok (.iload_n 2, 1) := by decide +kernel
theorem dX7_takes_3 : decode cX7_takes 3 = .ok (.bipush 8, 2) := by decide +kernel
theorem dX7_takes_5 : decode cX7_takes 5 = .ok (.if_icmp .ge 30, 3) := by decide +kernel
theorem dX7_takes_8 : decode cX7_takes 8 = .ok (.aload_n 0, 1) := by decide +kernel
theorem dX7_takes_9 : decode cX7_takes 9 = .ok (.getfield 7, 3) := by decide +kernel
theorem dX7_takes_12 : decode cX7_takes 12 = .ok (.bipush 8, 2) := by decide +kernel
theorem dX7_takes_14 : decode cX7_takes 14 = .ok (.iload_n 1, 1) := by decide +kernel
theorem dX7_takes_15 : decode cX7_takes 15 = .ok (.imul, 1) := by decide +kernel
theorem dX7_takes_16 : decode cX7_takes 16 = .ok (.iload_n 2, 1) := by decide +kernel
theorem dX7_takes_17 : decode cX7_takes 17 = .ok (.iadd, 1) := by decide +kernel
theorem dX7_takes_18 : decode cX7_takes 18 = .ok (.aload_n 0, 1) := by decide +kernel
theorem dX7_takes_19 : decode cX7_takes 19 = .ok (.getfield 7, 3) := by decide +kernel
theorem dX7_takes_22 : decode cX7_takes 22 = .ok (.sipush 960, 3) := by decide +kernel
theorem dX7_takes_25 : decode cX7_takes 25 = .ok (.iload_n 2, 1) := by decide +kernel
theorem dX7_takes_26 : decode cX7_takes 26 = .ok (.iadd, 1) := by decide +kernel
theorem dX7_takes_27 : decode cX7_takes 27 = .ok (.iaload, 1) := by decide +kernel
theorem dX7_takes_28 : decode cX7_takes 28 = .ok (.iastore, 1) := by decide +kernel
theorem dX7_takes_29 : decode cX7_takes 29 = .ok (.iinc 2 1, 3) := by decide +kernel
theorem dX7_takes_32 : decode cX7_takes 32 = .ok (.goto (-30), 3) := by decide +kernel
theorem dX7_takes_35 : decode cX7_takes 35 = .ok (.aload_n 0, 1) := by decide +kernel
theorem dX7_takes_36 : decode cX7_takes 36 = .ok (.getfield 13, 3) := by decide +kernel
theorem dX7_takes_39 : decode cX7_takes 39 = .ok (.iload_n 1, 1) := by decide +kernel
theorem dX7_takes_40 : decode cX7_takes 40 = .ok (.aload_n 0, 1) := by decide +kernel
theorem dX7_takes_41 : decode cX7_takes 41 = .ok (.getfield 13, 3) := by decide +kernel
theorem dX7_takes_44 : decode cX7_takes 44 = .ok (.bipush 120, 2) := by decide +kernel
theorem dX7_takes_46 : decode cX7_takes 46 = .ok (.iaload, 1) := by decide +kernel
theorem dX7_takes_47 : decode cX7_takes 47 = .ok (.iastore, 1) := by decide +kernel
theorem dX7_takes_48 : decode cX7_takes 48 = .ok (.aload_n 0, 1) := by decide +kernel
theorem dX7_takes_49 : decode cX7_takes 49 = .ok (.getfield 13, 3) := by decide +kernel
theorem dX7_takes_52 : decode cX7_takes 52 = .ok (.bipush 120, 2) := by decide +kernel
theorem dX7_takes_54 : decode cX7_takes 54 = .ok (.iconst 0, 1) := by decide +kernel
theorem dX7_takes_55 : decode cX7_takes 55 = .ok (.iastore, 1) := by decide +kernel
theorem dX7_takes_56 : decode cX7_takes 56 = .ok (.return_, 1) := by decide +kernel
theorem dX7_sign_0 : decode cX7_sign 0 = .ok (.iload_n 1, 1) := by decide +kernel
theorem dX7_sign_1 : decode cX7_sign 1 = .ok (.bipush 97, 2) := by decide +kernel
theorem dX7_sign_3 : decode cX7_sign 3 = .ok (.if_icmp .lt 9, 3) := by decide +kernel
theorem dX7_sign_6 : decode cX7_sign 6 = .ok (.iload_n 1, 1) := by decide +kernel
theorem dX7_sign_7 : decode cX7_sign 7 = .ok (.bipush 122, 2) := by decide +kernel
theorem dX7_sign_9 : decode cX7_sign 9 = .ok (.if_icmp .le 15, 3) := by decide +kernel
theorem dX7_sign_12 : decode cX7_sign 12 = .ok (.iload_n 1, 1) := by decide +kernel
theorem dX7_sign_13 : decode cX7_sign 13 = .ok (.bipush 32, 2) := by decide +kernel
theorem dX7_sign_15 : decode cX7_sign 15 = .ok (.if_icmp .eq 9, 3) := by decide +kernel
theorem dX7_sign_18 : decode cX7_sign 18 = .ok (.iload_n 1, 1) := by decide +kernel
theorem dX7_sign_19 : decode cX7_sign 19 = .ok (.bipush 45, 2) := by decide +kernel
theorem dX7_sign_21 : decode cX7_sign 21 = .ok (.if_icmp .ne 7, 3) := by decide +kernel
theorem dX7_sign_24 : decode cX7_sign 24 = .ok (.iconst 1, 1) := by decide +kernel
theorem dX7_sign_25 : decode cX7_sign 25 = .ok (.goto 4, 3) := by decide +kernel
theorem dX7_sign_28 : decode cX7_sign 28 = .ok (.iconst 0, 1) := by decide +kernel
theorem dX7_sign_29 : decode cX7_sign 29 = .ok (.istore_n 2, 1) := by decide +kernel
theorem dX7_sign_30 : decode cX7_sign 30 = .ok (.aload_n 0, 1) := by decide +kernel
theorem dX7_sign_31 : decode cX7_sign 31 = .ok (.iload_n 2, 1) := by decide +kernel
theorem dX7_sign_32 : decode cX7_sign 32 = .ok (.ifCond .ne 7, 3) := by decide +kernel
theorem dX7_sign_35 : decode cX7_sign 35 = .ok (.iconst 1, 1) := by decide +kernel
theorem dX7_sign_36 : decode cX7_sign 36 = .ok (.goto 20, 3) := by decide +kernel
theorem dX7_sign_39 : decode cX7_sign 39 = .ok (.aload_n 0, 1) := by decide +kernel
theorem dX7_sign_40 : decode cX7_sign 40 = .ok (.getfield 13, 3) := by decide +kernel
theorem dX7_sign_43 : decode cX7_sign 43 = .ok (.bipush 120, 2) := by decide +kernel
theorem dX7_sign_45 : decode cX7_sign 45 = .ok (.iaload, 1) := by decide +kernel
theorem dX7_sign_46 : decode cX7_sign 46 = .ok (.bipush 8, 2) := by decide +kernel
theorem dX7_sign_48 : decode cX7_sign 48 = .ok (.if_icmp .ne 7, 3) := by decide +kernel
theorem dX7_sign_51 : decode cX7_sign 51 = .ok (.iconst 2, 1) := by decide +kernel
theorem dX7_sign_52 : decode cX7_sign 52 = .ok (.goto 4, 3) := by decide +kernel
theorem dX7_sign_55 : decode cX7_sign 55 = .ok (.iconst 0, 1) := by decide +kernel
theorem dX7_sign_56 : decode cX7_sign 56 = .ok (.invokevirtual 103, 3) := by decide +kernel
theorem dX7_sign_59 : decode cX7_sign 59 = .ok (.ifCond .ne 5, 3) := by decide +kernel
theorem dX7_sign_62 : decode cX7_sign 62 = .ok (.iconst 0, 1) := by decide +kernel
theorem dX7_sign_63 : decode cX7_sign 63 = .ok (.ireturn, 1) := by decide +kernel
theorem dX7_sign_64 : decode cX7_sign 64 = .ok (.aload_n 0, 1) := by decide +kernel
theorem dX7_sign_65 : decode cX7_sign 65 = .ok (.getfield 7, 3) := by decide +kernel
theorem dX7_sign_68 : decode cX7_sign 68 = .ok (.sipush 960, 3) := by decide +kernel
theorem dX7_sign_71 : decode cX7_sign 71 = .ok (.aload_n 0, 1) := by decide +kernel
theorem dX7_sign_72 : decode cX7_sign 72 = .ok (.getfield 13, 3) := by decide +kernel
theorem dX7_sign_75 : decode cX7_sign 75 = .ok (.bipush 120, 2) := by decide +kernel
theorem dX7_sign_77 : decode cX7_sign 77 = .ok (.iaload, 1) := by decide +kernel
theorem dX7_sign_78 : decode cX7_sign 78 = .ok (.iadd, 1) := by decide +kernel
theorem dX7_sign_79 : decode cX7_sign 79 = .ok (.iload_n 1, 1) := by decide +kernel
theorem dX7_sign_80 : decode cX7_sign 80 = .ok (.bipush 97, 2) := by decide +kernel
theorem dX7_sign_82 : decode cX7_sign 82 = .ok (.if_icmp .ge 7, 3) := by decide +kernel
theorem dX7_sign_85 : decode cX7_sign 85 = .ok (.iconst 0, 1) := by decide +kernel
theorem dX7_sign_86 : decode cX7_sign 86 = .ok (.goto 9, 3) := by decide +kernel
theorem dX7_sign_89 : decode cX7_sign 89 = .ok (.iload_n 1, 1) := by decide +kernel
theorem dX7_sign_90 : decode cX7_sign 90 = .ok (.bipush 97, 2) := by decide +kernel
theorem dX7_sign_92 : decode cX7_sign 92 = .ok (.isub, 1) := by decide +kernel
theorem dX7_sign_93 : decode cX7_sign 93 = .ok (.iconst 1, 1) := by decide +kernel
theorem dX7_sign_94 : decode cX7_sign 94 = .ok (.iadd, 1) := by decide +kernel
theorem dX7_sign_95 : decode cX7_sign 95 = .ok (.iastore, 1) := by decide +kernel
theorem dX7_sign_96 : decode cX7_sign 96 = .ok (.aload_n 0, 1) := by decide +kernel
theorem dX7_sign_97 : decode cX7_sign 97 = .ok (.getfield 13, 3) := by decide +kernel
theorem dX7_sign_100 : decode cX7_sign 100 = .ok (.bipush 120, 2) := by decide +kernel
theorem dX7_sign_102 : decode cX7_sign 102 = .ok (.dup2, 1) := by decide +kernel
theorem dX7_sign_103 : decode cX7_sign 103 = .ok (.iaload, 1) := by decide +kernel
theorem dX7_sign_104 : decode cX7_sign 104 = .ok (.iconst 1, 1) := by decide +kernel
theorem dX7_sign_105 : decode cX7_sign 105 = .ok (.iadd, 1) := by decide +kernel
theorem dX7_sign_106 : decode cX7_sign 106 = .ok (.iastore, 1) := by decide +kernel
theorem dX7_sign_107 : decode cX7_sign 107 = .ok (.aload_n 0, 1) := by decide +kernel
theorem dX7_sign_108 : decode cX7_sign 108 = .ok (.getfield 13, 3) := by decide +kernel
theorem dX7_sign_111 : decode cX7_sign 111 = .ok (.bipush 120, 2) := by decide +kernel
theorem dX7_sign_113 : decode cX7_sign 113 = .ok (.iaload, 1) := by decide +kernel
theorem dX7_sign_114 : decode cX7_sign 114 = .ok (.ireturn, 1) := by decide +kernel
theorem dX7_erase_0 : decode cX7_erase 0 = .ok (.aload_n 0, 1) := by decide +kernel
theorem dX7_erase_1 : decode cX7_erase 1 = .ok (.iconst 0, 1) := by decide +kernel
theorem dX7_erase_2 : decode cX7_erase 2 = .ok (.putfield 74, 3) := by decide +kernel
theorem dX7_erase_5 : decode cX7_erase 5 = .ok (.aload_n 0, 1) := by decide +kernel
theorem dX7_erase_6 : decode cX7_erase 6 = .ok (.getfield 13, 3) := by decide +kernel
theorem dX7_erase_9 : decode cX7_erase 9 = .ok (.bipush 120, 2) := by decide +kernel
theorem dX7_erase_11 : decode cX7_erase 11 = .ok (.iaload, 1) := by decide +kernel
theorem dX7_erase_12 : decode cX7_erase 12 = .ok (.istore_n 1, 1) := by decide +kernel
theorem dX7_erase_13 : decode cX7_erase 13 = .ok (.aload_n 0, 1) := by decide +kernel
theorem dX7_erase_14 : decode cX7_erase 14 = .ok (.getfield 13, 3) := by decide +kernel
theorem dX7_erase_17 : decode cX7_erase 17 = .ok (.bipush 120, 2) := by decide +kernel
theorem dX7_erase_19 : decode cX7_erase 19 = .ok (.iconst 0, 1) := by decide +kernel
theorem dX7_erase_20 : decode cX7_erase 20 = .ok (.iastore, 1) := by decide +kernel
theorem dX7_erase_21 : decode cX7_erase 21 = .ok (.iload_n 1, 1) := by decide +kernel
theorem dX7_erase_22 : decode cX7_erase 22 = .ok (.ireturn, 1) := by decide +kernel
theorem dX7_rule_0 : decode cX7_rule 0 = .ok (.aload_n 0, 1) := by decide +kernel
theorem dX7_rule_1 : decode cX7_rule 1 = .ok (.aload_n 0, 1) := by decide +kernel
theorem dX7_rule_2 : decode cX7_rule 2 = .ok (.getfield 107, 3) := by decide +kernel
theorem dX7_rule_5 : decode cX7_rule 5 = .ok (.ifCond .le 7, 3) := by decide +kernel
theorem dX7_rule_8 : decode cX7_rule 8 = .ok (.iconst 1, 1) := by decide +kernel
theorem dX7_rule_9 : decode cX7_rule 9 = .ok (.goto 4, 3) := by decide +kernel
theorem dX7_rule_12 : decode cX7_rule 12 = .ok (.iconst 0, 1) := by decide +kernel
theorem dX7_rule_13 : decode cX7_rule 13 = .ok (.invokevirtual 103, 3) := by decide +kernel
theorem dX7_rule_16 : decode cX7_rule 16 = .ok (.ifCond .ne 5, 3) := by decide +kernel
theorem dX7_rule_19 : decode cX7_rule 19 = .ok (.iconst 0, 1) := by decide +kernel
theorem dX7_rule_20 : decode cX7_rule 20 = .ok (.ireturn, 1) := by decide +kernel
theorem dX7_rule_21 : decode cX7_rule 21 = .ok (.aload_n 0, 1) := by decide +kernel
theorem dX7_rule_22 : decode cX7_rule 22 = .ok (.getfield 88, 3) := by decide +kernel
theorem dX7_rule_25 : decode cX7_rule 25 = .ok (.istore_n 2, 1) := by decide +kernel
theorem dX7_rule_26 : decode cX7_rule 26 = .ok (.aload_n 0, 1) := by decide +kernel
theorem dX7_rule_27 : decode cX7_rule 27 = .ok (.iload_n 1, 1) := by decide +kernel
theorem dX7_rule_28 : decode cX7_rule 28 = .ok (.putfield 88, 3) := by decide +kernel
theorem dX7_rule_31 : decode cX7_rule 31 = .ok (.iload_n 2, 1) := by decide +kernel
theorem dX7_rule_32 : decode cX7_rule 32 = .ok (.ireturn, 1) := by decide +kernel
theorem dX7_article_0 : decode cX7_article 0 = .ok (.iload_n 2, 1) := by decide +kernel
theorem dX7_article_1 : decode cX7_article 1 = .ok (.iconst 0, 1) := by decide +kernel
theorem dX7_article_2 : decode cX7_article 2 = .ok (.bipush 9, 2) := by decide +kernel
theorem dX7_article_4 : decode cX7_article 4 = .ok (.invokestatic 81, 3) := by decide +kernel
theorem dX7_article_7 : decode cX7_article 7 = .ok (.istore_n 3, 1) := by decide +kernel
theorem dX7_article_8 : decode cX7_article 8 = .ok (.aload_n 0, 1) := by decide +kernel
theorem dX7_article_9 : decode cX7_article 9 = .ok (.iload_n 1, 1) := by decide +kernel
theorem dX7_article_10 : decode cX7_article 10 = .ok (.invokestatic 110, 3) := by decide +kernel
theorem dX7_article_13 : decode cX7_article 13 = .ok (.ifCond .ne 7, 3) := by decide +kernel
theorem dX7_article_16 : decode cX7_article 16 = .ok (.iconst 1, 1) := by decide +kernel
theorem dX7_article_17 : decode cX7_article 17 = .ok (.goto 34, 3) := by decide +kernel
theorem dX7_article_20 : decode cX7_article 20 = .ok (.iload_n 3, 1) := by decide +kernel
theorem dX7_article_21 : decode cX7_article 21 = .ok (.ifCond .ne 7, 3) := by decide +kernel
theorem dX7_article_24 : decode cX7_article 24 = .ok (.iconst 2, 1) := by decide +kernel
theorem dX7_article_25 : decode cX7_article 25 = .ok (.goto 26, 3) := by decide +kernel
theorem dX7_article_28 : decode cX7_article 28 = .ok (.aload_n 0, 1) := by decide +kernel
theorem dX7_article_29 : decode cX7_article 29 = .ok (.getfield 78, 3) := by decide +kernel
theorem dX7_article_32 : decode cX7_article 32 = .ok (.bipush 24, 2) := by decide +kernel
theorem dX7_article_34 : decode cX7_article 34 = .ok (.if_icmp .eq 12, 3) := by decide +kernel
theorem dX7_article_37 : decode cX7_article 37 = .ok (.aload_n 0, 1) := by decide +kernel
theorem dX7_article_38 : decode cX7_article 38 = .ok (.bipush 120, 2) := by decide +kernel
theorem dX7_article_40 : decode cX7_article 40 = .ok (.invokevirtual 99, 3) := by decide +kernel
theorem dX7_article_43 : decode cX7_article 43 = .ok (.ifCond .ne 7, 3) := by decide +kernel
theorem dX7_article_46 : decode cX7_article 46 = .ok (.iconst 3, 1) := by decide +kernel
theorem dX7_article_47 : decode cX7_article 47 = .ok (.goto 4, 3) := by decide +kernel
theorem dX7_article_50 : decode cX7_article 50 = .ok (.iconst 0, 1) := by decide +kernel
theorem dX7_article_51 : decode cX7_article 51 = .ok (.invokevirtual 103, 3) := by decide +kernel
theorem dX7_article_54 : decode cX7_article 54 = .ok (.ifCond .ne 5, 3) := by decide +kernel
theorem dX7_article_57 : decode cX7_article 57 = .ok (.iconst 0, 1) := by decide +kernel
theorem dX7_article_58 : decode cX7_article 58 = .ok (.ireturn, 1) := by decide +kernel
theorem dX7_article_59 : decode cX7_article 59 = .ok (.aload_n 0, 1) := by decide +kernel
theorem dX7_article_60 : decode cX7_article 60 = .ok (.aload_n 0, 1) := by decide +kernel
theorem dX7_article_61 : decode cX7_article 61 = .ok (.getfield 78, 3) := by decide +kernel
theorem dX7_article_64 : decode cX7_article 64 = .ok (.invokevirtual 113, 3) := by decide +kernel
theorem dX7_article_67 : decode cX7_article 67 = .ok (.aload_n 0, 1) := by decide +kernel
theorem dX7_article_68 : decode cX7_article 68 = .ok (.getfield 16, 3) := by decide +kernel
theorem dX7_article_71 : decode cX7_article 71 = .ok (.aload_n 0, 1) := by decide +kernel
theorem dX7_article_72 : decode cX7_article 72 = .ok (.getfield 78, 3) := by decide +kernel
theorem dX7_article_75 : decode cX7_article 75 = .ok (.iload_n 1, 1) := by decide +kernel
theorem dX7_article_76 : decode cX7_article 76 = .ok (.iastore, 1) := by decide +kernel
theorem dX7_article_77 : decode cX7_article 77 = .ok (.aload_n 0, 1) := by decide +kernel
theorem dX7_article_78 : decode cX7_article 78 = .ok (.getfield 19, 3) := by decide +kernel
theorem dX7_article_81 : decode cX7_article 81 = .ok (.aload_n 0, 1) := by decide +kernel
theorem dX7_article_82 : decode cX7_article 82 = .ok (.getfield 78, 3) := by decide +kernel
theorem dX7_article_85 : decode cX7_article 85 = .ok (.iload_n 2, 1) := by decide +kernel
theorem dX7_article_86 : decode cX7_article 86 = .ok (.iastore, 1) := by decide +kernel
theorem dX7_article_87 : decode cX7_article 87 = .ok (.aload_n 0, 1) := by decide +kernel
theorem dX7_article_88 : decode cX7_article 88 = .ok (.getfield 25, 3) := by decide +kernel
theorem dX7_article_91 : decode cX7_article 91 = .ok (.aload_n 0, 1) := by decide +kernel
theorem dX7_article_92 : decode cX7_article 92 = .ok (.getfield 78, 3) := by decide +kernel
theorem dX7_article_95 : decode cX7_article 95 = .ok (.iconst (-1), 1) := by decide +kernel
theorem dX7_article_96 : decode cX7_article 96 = .ok (.iastore, 1) := by decide +kernel
theorem dX7_article_97 : decode cX7_article 97 = .ok (.aload_n 0, 1) := by decide +kernel
theorem dX7_article_98 : decode cX7_article 98 = .ok (.getfield 28, 3) := by decide +kernel
theorem dX7_article_101 : decode cX7_article 101 = .ok (.aload_n 0, 1) := by decide +kernel
theorem dX7_article_102 : decode cX7_article 102 = .ok (.getfield 78, 3) := by decide +kernel
theorem dX7_article_105 : decode cX7_article 105 = .ok (.iconst (-1), 1) := by decide +kernel
theorem dX7_article_106 : decode cX7_article 106 = .ok (.iastore, 1) := by decide +kernel
theorem dX7_article_107 : decode cX7_article 107 = .ok (.aload_n 0, 1) := by decide +kernel
theorem dX7_article_108 : decode cX7_article 108 = .ok (.dup, 1) := by decide +kernel
theorem dX7_article_109 : decode cX7_article 109 = .ok (.getfield 78, 3) := by decide +kernel
theorem dX7_article_112 : decode cX7_article 112 = .ok (.iconst 1, 1) := by decide +kernel
theorem dX7_article_113 : decode cX7_article 113 = .ok (.iadd, 1) := by decide +kernel
theorem dX7_article_114 : decode cX7_article 114 = .ok (.putfield 78, 3) := by decide +kernel
theorem dX7_article_117 : decode cX7_article 117 = .ok (.aload_n 0, 1) := by decide +kernel
theorem dX7_article_118 : decode cX7_article 118 = .ok (.getfield 78, 3) := by decide +kernel
theorem dX7_article_121 : decode cX7_article 121 = .ok (.iconst 1, 1) := by decide +kernel
theorem dX7_article_122 : decode cX7_article 122 = .ok (.isub, 1) := by decide +kernel
theorem dX7_article_123 : decode cX7_article 123 = .ok (.ireturn, 1) := by decide +kernel
theorem dX7_under_0 : decode cX7_under 0 = .ok (.aload_n 0, 1) := by decide +kernel
theorem dX7_under_1 : decode cX7_under 1 = .ok (.iload_n 1, 1) := by decide +kernel
theorem dX7_under_2 : decode cX7_under 2 = .ok (.invokestatic 110, 3) := by decide +kernel
theorem dX7_under_5 : decode cX7_under 5 = .ok (.ifCond .eq 15, 3) := by decide +kernel
theorem dX7_under_8 : decode cX7_under 8 = .ok (.iload_n 2, 1) := by decide +kernel
theorem dX7_under_9 : decode cX7_under 9 = .ok (.iconst (-1), 1) := by decide +kernel
theorem dX7_under_10 : decode cX7_under 10 = .ok (.if_icmp .eq 14, 3) := by decide +kernel
theorem dX7_under_13 : decode cX7_under 13 = .ok (.iload_n 2, 1) := by decide +kernel
theorem dX7_under_14 : decode cX7_under 14 = .ok (.invokestatic 110, 3) := by decide +kernel
theorem dX7_under_17 : decode cX7_under 17 = .ok (.ifCond .ne 7, 3) := by decide +kernel
theorem dX7_under_20 : decode cX7_under 20 = .ok (.iconst 1, 1) := by decide +kernel
theorem dX7_under_21 : decode cX7_under 21 = .ok (.goto 13, 3) := by decide +kernel
theorem dX7_under_24 : decode cX7_under 24 = .ok (.iload_n 2, 1) := by decide +kernel
theorem dX7_under_25 : decode cX7_under 25 = .ok (.iload_n 1, 1) := by decide +kernel
theorem dX7_under_26 : decode cX7_under 26 = .ok (.if_icmp .ge 7, 3) := by decide +kernel
theorem dX7_under_29 : decode cX7_under 29 = .ok (.iconst 0, 1) := by decide +kernel
theorem dX7_under_30 : decode cX7_under 30 = .ok (.goto 4, 3) := by decide +kernel
theorem dX7_under_33 : decode cX7_under 33 = .ok (.iconst 2, 1) := by decide +kernel
theorem dX7_under_34 : decode cX7_under 34 = .ok (.invokevirtual 103, 3) := by decide +kernel
theorem dX7_under_37 : decode cX7_under 37 = .ok (.ifCond .ne 5, 3) := by decide +kernel
theorem dX7_under_40 : decode cX7_under 40 = .ok (.iconst 0, 1) := by decide +kernel
theorem dX7_under_41 : decode cX7_under 41 = .ok (.ireturn, 1) := by decide +kernel
theorem dX7_under_42 : decode cX7_under 42 = .ok (.aload_n 0, 1) := by decide +kernel
theorem dX7_under_43 : decode cX7_under 43 = .ok (.getfield 50, 3) := by decide +kernel
theorem dX7_under_46 : decode cX7_under 46 = .ok (.iload_n 1, 1) := by decide +kernel
theorem dX7_under_47 : decode cX7_under 47 = .ok (.iaload, 1) := by decide +kernel
theorem dX7_under_48 : decode cX7_under 48 = .ok (.istore_n 3, 1) := by decide +kernel
theorem dX7_under_49 : decode cX7_under 49 = .ok (.aload_n 0, 1) := by decide +kernel
theorem dX7_under_50 : decode cX7_under 50 = .ok (.getfield 50, 3) := by decide +kernel
theorem dX7_under_53 : decode cX7_under 53 = .ok (.iload_n 1, 1) := by decide +kernel
theorem dX7_under_54 : decode cX7_under 54 = .ok (.iload_n 2, 1) := by decide +kernel
theorem dX7_under_55 : decode cX7_under 55 = .ok (.iastore, 1) := by decide +kernel
theorem dX7_under_56 : decode cX7_under 56 = .ok (.iload_n 3, 1) := by decide +kernel
theorem dX7_under_57 : decode cX7_under 57 = .ok (.ireturn, 1) := by decide +kernel
theorem dX7_reference_0 : decode cX7_reference 0 = .ok (.bipush 24, 2) := by decide +kernel
theorem dX7_reference_2 : decode cX7_reference 2 = .ok (.iconst 4, 1) := by decide +kernel
theorem dX7_reference_3 : decode cX7_reference 3 = .ok (.iload_n 0, 1) := by decide +kernel
theorem dX7_reference_4 : decode cX7_reference 4 = .ok (.imul, 1) := by decide +kernel
theorem dX7_reference_5 : decode cX7_reference 5 = .ok (.iadd, 1) := by decide +kernel
theorem dX7_reference_6 : decode cX7_reference 6 = .ok (.iload_n 1, 1) := by decide +kernel
theorem dX7_reference_7 : decode cX7_reference 7 = .ok (.iadd, 1) := by decide +kernel
theorem dX7_reference_8 : decode cX7_reference 8 = .ok (.ireturn, 1) := by decide +kernel
theorem dX7_refer_0 : decode cX7_refer 0 = .ok (.aload_n 0, 1) := by decide +kernel
theorem dX7_refer_1 : decode cX7_refer 1 = .ok (.iload_n 1, 1) := by decide +kernel
theorem dX7_refer_2 : decode cX7_refer 2 = .ok (.invokevirtual 117, 3) := by decide +kernel
theorem dX7_refer_5 : decode cX7_refer 5 = .ok (.istore_n 2, 1) := by decide +kernel
theorem dX7_refer_6 : decode cX7_refer 6 = .ok (.aload_n 0, 1) := by decide +kernel
theorem dX7_refer_7 : decode cX7_refer 7 = .ok (.iload_n 2, 1) := by decide +kernel
theorem dX7_refer_8 : decode cX7_refer 8 = .ok (.ifCond .ne 7, 3) := by decide +kernel
theorem dX7_refer_11 : decode cX7_refer 11 = .ok (.iconst 1, 1) := by decide +kernel
theorem dX7_refer_12 : decode cX7_refer 12 = .ok (.goto 37, 3) := by decide +kernel
theorem dX7_refer_15 : decode cX7_refer 15 = .ok (.aload_n 0, 1) := by decide +kernel
theorem dX7_refer_16 : decode cX7_refer 16 = .ok (.getfield 22, 3) := by decide +kernel
theorem dX7_refer_19 : decode cX7_refer 19 = .ok (.iload_n 1, 1) := by decide +kernel
theorem dX7_refer_20 : decode cX7_refer 20 = .ok (.iaload, 1) := by decide +kernel
theorem dX7_refer_21 : decode cX7_refer 21 = .ok (.iconst 3, 1) := by decide +kernel
theorem dX7_refer_22 : decode cX7_refer 22 = .ok (.if_icmp .eq 22, 3) := by decide +kernel
theorem dX7_refer_25 : decode cX7_refer 25 = .ok (.aload_n 0, 1) := by decide +kernel
theorem dX7_refer_26 : decode cX7_refer 26 = .ok (.getfield 38, 3) := by decide +kernel
theorem dX7_refer_29 : decode cX7_refer 29 = .ok (.iload_n 1, 1) := by decide +kernel
theorem dX7_refer_30 : decode cX7_refer 30 = .ok (.iaload, 1) := by decide +kernel
theorem dX7_refer_31 : decode cX7_refer 31 = .ok (.iconst 4, 1) := by decide +kernel
theorem dX7_refer_32 : decode cX7_refer 32 = .ok (.if_icmp .eq 12, 3) := by decide +kernel
theorem dX7_refer_35 : decode cX7_refer 35 = .ok (.aload_n 0, 1) := by decide +kernel
theorem dX7_refer_36 : decode cX7_refer 36 = .ok (.bipush 120, 2) := by decide +kernel
theorem dX7_refer_38 : decode cX7_refer 38 = .ok (.invokevirtual 99, 3) := by decide +kernel
theorem dX7_refer_41 : decode cX7_refer 41 = .ok (.ifCond .ne 7, 3) := by decide +kernel
theorem dX7_refer_44 : decode cX7_refer 44 = .ok (.iconst 2, 1) := by decide +kernel
theorem dX7_refer_45 : decode cX7_refer 45 = .ok (.goto 4, 3) := by decide +kernel
theorem dX7_refer_48 : decode cX7_refer 48 = .ok (.iconst 0, 1) := by decide +kernel
theorem dX7_refer_49 : decode cX7_refer 49 = .ok (.invokevirtual 103, 3) := by decide +kernel
theorem dX7_refer_52 : decode cX7_refer 52 = .ok (.ifCond .ne 5, 3) := by decide +kernel
theorem dX7_refer_55 : decode cX7_refer 55 = .ok (.iconst 0, 1) := by decide +kernel
theorem dX7_refer_56 : decode cX7_refer 56 = .ok (.ireturn, 1) := by decide +kernel
theorem dX7_refer_57 : decode cX7_refer 57 = .ok (.aload_n 0, 1) := by decide +kernel
theorem dX7_refer_58 : decode cX7_refer 58 = .ok (.iload_n 1, 1) := by decide +kernel
theorem dX7_refer_59 : decode cX7_refer 59 = .ok (.aload_n 0, 1) := by decide +kernel
theorem dX7_refer_60 : decode cX7_refer 60 = .ok (.getfield 38, 3) := by decide +kernel
theorem dX7_refer_63 : decode cX7_refer 63 = .ok (.iload_n 1, 1) := by decide +kernel
theorem dX7_refer_64 : decode cX7_refer 64 = .ok (.iaload, 1) := by decide +kernel
theorem dX7_refer_65 : decode cX7_refer 65 = .ok (.invokestatic 120, 3) := by decide +kernel
theorem dX7_refer_68 : decode cX7_refer 68 = .ok (.invokevirtual 113, 3) := by decide +kernel
theorem dX7_refer_71 : decode cX7_refer 71 = .ok (.aload_n 0, 1) := by decide +kernel
theorem dX7_refer_72 : decode cX7_refer 72 = .ok (.getfield 38, 3) := by decide +kernel
theorem dX7_refer_75 : decode cX7_refer 75 = .ok (.iload_n 1, 1) := by decide +kernel
theorem dX7_refer_76 : decode cX7_refer 76 = .ok (.dup2, 1) := by decide +kernel
theorem dX7_refer_77 : decode cX7_refer 77 = .ok (.iaload, 1) := by decide +kernel
theorem dX7_refer_78 : decode cX7_refer 78 = .ok (.iconst 1, 1) := by decide +kernel
theorem dX7_refer_79 : decode cX7_refer 79 = .ok (.iadd, 1) := by decide +kernel
theorem dX7_refer_80 : decode cX7_refer 80 = .ok (.iastore, 1) := by decide +kernel
theorem dX7_refer_81 : decode cX7_refer 81 = .ok (.aload_n 0, 1) := by decide +kernel
theorem dX7_refer_82 : decode cX7_refer 82 = .ok (.getfield 38, 3) := by decide +kernel
theorem dX7_refer_85 : decode cX7_refer 85 = .ok (.iload_n 1, 1) := by decide +kernel
theorem dX7_refer_86 : decode cX7_refer 86 = .ok (.iaload, 1) := by decide +kernel
theorem dX7_refer_87 : decode cX7_refer 87 = .ok (.ireturn, 1) := by decide +kernel
theorem dX7_use_0 : decode cX7_use 0 = .ok (.aload_n 0, 1) := by decide +kernel
theorem dX7_use_1 : decode cX7_use 1 = .ok (.iload_n 1, 1) := by decide +kernel
theorem dX7_use_2 : decode cX7_use 2 = .ok (.invokevirtual 117, 3) := by decide +kernel
theorem dX7_use_5 : decode cX7_use 5 = .ok (.ifCond .eq 14, 3) := by decide +kernel
theorem dX7_use_8 : decode cX7_use 8 = .ok (.iload_n 2, 1) := by decide +kernel
theorem dX7_use_9 : decode cX7_use 9 = .ok (.invokestatic 123, 3) := by decide +kernel
theorem dX7_use_12 : decode cX7_use 12 = .ok (.ifCond .eq 7, 3) := by decide +kernel
theorem dX7_use_15 : decode cX7_use 15 = .ok (.iconst 1, 1) := by decide +kernel
theorem dX7_use_16 : decode cX7_use 16 = .ok (.goto 4, 3) := by decide +kernel
theorem dX7_use_19 : decode cX7_use 19 = .ok (.iconst 0, 1) := by decide +kernel
theorem dX7_use_20 : decode cX7_use 20 = .ok (.istore_n 3, 1) := by decide +kernel
theorem dX7_use_21 : decode cX7_use 21 = .ok (.aload_n 0, 1) := by decide +kernel
theorem dX7_use_22 : decode cX7_use 22 = .ok (.iload_n 3, 1) := by decide +kernel
theorem dX7_use_23 : decode cX7_use 23 = .ok (.ifCond .ne 7, 3) := by decide +kernel
theorem dX7_use_26 : decode cX7_use 26 = .ok (.iconst 1, 1) := by decide +kernel
theorem dX7_use_27 : decode cX7_use 27 = .ok (.goto 27, 3) := by decide +kernel
theorem dX7_use_30 : decode cX7_use 30 = .ok (.aload_n 0, 1) := by decide +kernel
theorem dX7_use_31 : decode cX7_use 31 = .ok (.getfield 22, 3) := by decide +kernel
theorem dX7_use_34 : decode cX7_use 34 = .ok (.iload_n 1, 1) := by decide +kernel
theorem dX7_use_35 : decode cX7_use 35 = .ok (.iaload, 1) := by decide +kernel
theorem dX7_use_36 : decode cX7_use 36 = .ok (.iconst 3, 1) := by decide +kernel
theorem dX7_use_37 : decode cX7_use 37 = .ok (.if_icmp .eq 12, 3) := by decide +kernel
theorem dX7_use_40 : decode cX7_use 40 = .ok (.aload_n 0, 1) := by decide +kernel
theorem dX7_use_41 : decode cX7_use 41 = .ok (.getfield 19, 3) := by decide +kernel
theorem dX7_use_44 : decode cX7_use 44 = .ok (.iload_n 1, 1) := by decide +kernel
theorem dX7_use_45 : decode cX7_use 45 = .ok (.iaload, 1) := by decide +kernel
theorem dX7_use_46 : decode cX7_use 46 = .ok (.ifCond .ne 7, 3) := by decide +kernel
theorem dX7_use_49 : decode cX7_use 49 = .ok (.iconst 2, 1) := by decide +kernel
theorem dX7_use_50 : decode cX7_use 50 = .ok (.goto 4, 3) := by decide +kernel
theorem dX7_use_53 : decode cX7_use 53 = .ok (.iconst 0, 1) := by decide +kernel
theorem dX7_use_54 : decode cX7_use 54 = .ok (.invokevirtual 103, 3) := by decide +kernel
theorem dX7_use_57 : decode cX7_use 57 = .ok (.ifCond .ne 5, 3) := by decide +kernel
theorem dX7_use_60 : decode cX7_use 60 = .ok (.iconst 0, 1) := by decide +kernel
theorem dX7_use_61 : decode cX7_use 61 = .ok (.ireturn, 1) := by decide +kernel
theorem dX7_use_62 : decode cX7_use 62 = .ok (.aload_n 0, 1) := by decide +kernel
theorem dX7_use_63 : decode cX7_use 63 = .ok (.getfield 44, 3) := by decide +kernel
theorem dX7_use_66 : decode cX7_use 66 = .ok (.bipush 8, 2) := by decide +kernel
theorem dX7_use_68 : decode cX7_use 68 = .ok (.iload_n 1, 1) := by decide +kernel
theorem dX7_use_69 : decode cX7_use 69 = .ok (.imul, 1) := by decide +kernel
theorem dX7_use_70 : decode cX7_use 70 = .ok (.iload_n 2, 1) := by decide +kernel
theorem dX7_use_71 : decode cX7_use 71 = .ok (.iadd, 1) := by decide +kernel
theorem dX7_use_72 : decode cX7_use 72 = .ok (.baload, 1) := by decide +kernel
theorem dX7_use_73 : decode cX7_use 73 = .ok (.istore 4, 2) := by decide +kernel
theorem dX7_use_75 : decode cX7_use 75 = .ok (.aload_n 0, 1) := by decide +kernel
theorem dX7_use_76 : decode cX7_use 76 = .ok (.getfield 44, 3) := by decide +kernel
theorem dX7_use_79 : decode cX7_use 79 = .ok (.bipush 8, 2) := by decide +kernel
theorem dX7_use_81 : decode cX7_use 81 = .ok (.iload_n 1, 1) := by decide +kernel
theorem dX7_use_82 : decode cX7_use 82 = .ok (.imul, 1) := by decide +kernel
theorem dX7_use_83 : decode cX7_use 83 = .ok (.iload_n 2, 1) := by decide +kernel
theorem dX7_use_84 : decode cX7_use 84 = .ok (.iadd, 1) := by decide +kernel
theorem dX7_use_85 : decode cX7_use 85 = .ok (.iconst 1, 1) := by decide +kernel
theorem dX7_use_86 : decode cX7_use 86 = .ok (.bastore, 1) := by decide +kernel
theorem dX7_use_87 : decode cX7_use 87 = .ok (.iload 4, 2) := by decide +kernel
theorem dX7_use_89 : decode cX7_use 89 = .ok (.ifCond .ne 7, 3) := by decide +kernel
theorem dX7_use_92 : decode cX7_use 92 = .ok (.iconst 1, 1) := by decide +kernel
theorem dX7_use_93 : decode cX7_use 93 = .ok (.goto 4, 3) := by decide +kernel
theorem dX7_use_96 : decode cX7_use 96 = .ok (.iconst 0, 1) := by decide +kernel
theorem dX7_use_97 : decode cX7_use 97 = .ok (.ireturn, 1) := by decide +kernel
theorem dX7_change_0 : decode cX7_change 0 = .ok (.aload_n 0, 1) := by decide +kernel
theorem dX7_change_1 : decode cX7_change 1 = .ok (.iload_n 1, 1) := by decide +kernel
theorem dX7_change_2 : decode cX7_change 2 = .ok (.invokestatic 123, 3) := by decide +kernel
theorem dX7_change_5 : decode cX7_change 5 = .ok (.ifCond .eq 7, 3) := by decide +kernel
theorem dX7_change_8 : decode cX7_change 8 = .ok (.iconst 0, 1) := by decide +kernel
theorem dX7_change_9 : decode cX7_change 9 = .ok (.goto 4, 3) := by decide +kernel
theorem dX7_change_12 : decode cX7_change 12 = .ok (.iconst 1, 1) := by decide +kernel
theorem dX7_change_13 : decode cX7_change 13 = .ok (.invokevirtual 103, 3) := by decide +kernel
theorem dX7_change_16 : decode cX7_change 16 = .ok (.ifCond .ne 5, 3) := by decide +kernel
theorem dX7_change_19 : decode cX7_change 19 = .ok (.iconst 0, 1) := by decide +kernel
theorem dX7_change_20 : decode cX7_change 20 = .ok (.ireturn, 1) := by decide +kernel
theorem dX7_change_21 : decode cX7_change 21 = .ok (.aload_n 0, 1) := by decide +kernel
theorem dX7_change_22 : decode cX7_change 22 = .ok (.getfield 53, 3) := by decide +kernel
theorem dX7_change_25 : decode cX7_change 25 = .ok (.iload_n 1, 1) := by decide +kernel
theorem dX7_change_26 : decode cX7_change 26 = .ok (.iaload, 1) := by decide +kernel
theorem dX7_change_27 : decode cX7_change 27 = .ok (.istore_n 3, 1) := by decide +kernel
theorem dX7_change_28 : decode cX7_change 28 = .ok (.aload_n 0, 1) := by decide +kernel
theorem dX7_change_29 : decode cX7_change 29 = .ok (.getfield 53, 3) := by decide +kernel
theorem dX7_change_32 : decode cX7_change 32 = .ok (.iload_n 1, 1) := by decide +kernel
theorem dX7_change_33 : decode cX7_change 33 = .ok (.iload_n 2, 1) := by decide +kernel
theorem dX7_change_34 : decode cX7_change 34 = .ok (.iastore, 1) := by decide +kernel
theorem dX7_change_35 : decode cX7_change 35 = .ok (.iload_n 3, 1) := by decide +kernel
theorem dX7_change_36 : decode cX7_change 36 = .ok (.ireturn, 1) := by decide +kernel
theorem dX7_forbid_0 : decode cX7_forbid 0 = .ok (.aload_n 0, 1) := by decide +kernel
theorem dX7_forbid_1 : decode cX7_forbid 1 = .ok (.aload_n 0, 1) := by decide +kernel
theorem dX7_forbid_2 : decode cX7_forbid 2 = .ok (.iload_n 1, 1) := by decide +kernel
theorem dX7_forbid_3 : decode cX7_forbid 3 = .ok (.invokevirtual 117, 3) := by decide +kernel
theorem dX7_forbid_6 : decode cX7_forbid 6 = .ok (.ifCond .ne 7, 3) := by decide +kernel
theorem dX7_forbid_9 : decode cX7_forbid 9 = .ok (.iconst 1, 1) := by decide +kernel
theorem dX7_forbid_10 : decode cX7_forbid 10 = .ok (.goto 18, 3) := by decide +kernel
theorem dX7_forbid_13 : decode cX7_forbid 13 = .ok (.aload_n 0, 1) := by decide +kernel
theorem dX7_forbid_14 : decode cX7_forbid 14 = .ok (.getfield 22, 3) := by decide +kernel
theorem dX7_forbid_17 : decode cX7_forbid 17 = .ok (.iload_n 1, 1) := by decide +kernel
theorem dX7_forbid_18 : decode cX7_forbid 18 = .ok (.iaload, 1) := by decide +kernel
theorem dX7_forbid_19 : decode cX7_forbid 19 = .ok (.iconst 3, 1) := by decide +kernel
theorem dX7_forbid_20 : decode cX7_forbid 20 = .ok (.if_icmp .ne 7, 3) := by decide +kernel
theorem dX7_forbid_23 : decode cX7_forbid 23 = .ok (.iconst 2, 1) := by decide +kernel
theorem dX7_forbid_24 : decode cX7_forbid 24 = .ok (.goto 4, 3) := by decide +kernel
theorem dX7_forbid_27 : decode cX7_forbid 27 = .ok (.iconst 0, 1) := by decide +kernel
theorem dX7_forbid_28 : decode cX7_forbid 28 = .ok (.invokevirtual 103, 3) := by decide +kernel
theorem dX7_forbid_31 : decode cX7_forbid 31 = .ok (.ifCond .ne 5, 3) := by decide +kernel
theorem dX7_forbid_34 : decode cX7_forbid 34 = .ok (.iconst 0, 1) := by decide +kernel
theorem dX7_forbid_35 : decode cX7_forbid 35 = .ok (.ireturn, 1) := by decide +kernel
theorem dX7_forbid_36 : decode cX7_forbid 36 = .ok (.aload_n 0, 1) := by decide +kernel
theorem dX7_forbid_37 : decode cX7_forbid 37 = .ok (.getfield 34, 3) := by decide +kernel
theorem dX7_forbid_40 : decode cX7_forbid 40 = .ok (.iload_n 1, 1) := by decide +kernel
theorem dX7_forbid_41 : decode cX7_forbid 41 = .ok (.baload, 1) := by decide +kernel
theorem dX7_forbid_42 : decode cX7_forbid 42 = .ok (.istore_n 3, 1) := by decide +kernel
theorem dX7_forbid_43 : decode cX7_forbid 43 = .ok (.aload_n 0, 1) := by decide +kernel
theorem dX7_forbid_44 : decode cX7_forbid 44 = .ok (.getfield 34, 3) := by decide +kernel
theorem dX7_forbid_47 : decode cX7_forbid 47 = .ok (.iload_n 1, 1) := by decide +kernel
theorem dX7_forbid_48 : decode cX7_forbid 48 = .ok (.iload_n 2, 1) := by decide +kernel
theorem dX7_forbid_49 : decode cX7_forbid 49 = .ok (.bastore, 1) := by decide +kernel
theorem dX7_forbid_50 : decode cX7_forbid 50 = .ok (.iload_n 3, 1) := by decide +kernel
theorem dX7_forbid_51 : decode cX7_forbid 51 = .ok (.ireturn, 1) := by decide +kernel
theorem dX7_volume_0 : decode cX7_volume 0 = .ok (.iload_n 1, 1) := by decide +kernel
theorem dX7_volume_1 : decode cX7_volume 1 = .ok (.bipush 97, 2) := by decide +kernel
theorem dX7_volume_3 : decode cX7_volume 3 = .ok (.if_icmp .lt 50, 3) := by decide +kernel
theorem dX7_volume_6 : decode cX7_volume 6 = .ok (.iload_n 1, 1) := by decide +kernel
theorem dX7_volume_7 : decode cX7_volume 7 = .ok (.bipush 122, 2) := by decide +kernel
theorem dX7_volume_9 : decode cX7_volume 9 = .ok (.if_icmp .gt 44, 3) := by decide +kernel
theorem dX7_volume_12 : decode cX7_volume 12 = .ok (.aload_n 0, 1) := by decide +kernel
theorem dX7_volume_13 : decode cX7_volume 13 = .ok (.getfield 96, 3) := by decide +kernel
theorem dX7_volume_16 : decode cX7_volume 16 = .ok (.ifCond .eq 23, 3) := by decide +kernel
theorem dX7_volume_19 : decode cX7_volume 19 = .ok (.iload_n 1, 1) := by decide +kernel
theorem dX7_volume_20 : decode cX7_volume 20 = .ok (.bipush 97, 2) := by decide +kernel
theorem dX7_volume_22 : decode cX7_volume 22 = .ok (.isub, 1) := by decide +kernel
theorem dX7_volume_23 : decode cX7_volume 23 = .ok (.iconst 1, 1) := by decide +kernel
theorem dX7_volume_24 : decode cX7_volume 24 = .ok (.iadd, 1) := by decide +kernel
theorem dX7_volume_25 : decode cX7_volume 25 = .ok (.aload_n 0, 1) := by decide +kernel
theorem dX7_volume_26 : decode cX7_volume 26 = .ok (.getfield 56, 3) := by decide +kernel
theorem dX7_volume_29 : decode cX7_volume 29 = .ok (.aload_n 0, 1) := by decide +kernel
theorem dX7_volume_30 : decode cX7_volume 30 = .ok (.getfield 96, 3) := by decide +kernel
theorem dX7_volume_33 : decode cX7_volume 33 = .ok (.iconst 1, 1) := by decide +kernel
theorem dX7_volume_34 : decode cX7_volume 34 = .ok (.isub, 1) := by decide +kernel
theorem dX7_volume_35 : decode cX7_volume 35 = .ok (.iaload, 1) := by decide +kernel
theorem dX7_volume_36 : decode cX7_volume 36 = .ok (.if_icmp .le 17, 3) := by decide +kernel
theorem dX7_volume_39 : decode cX7_volume 39 = .ok (.iload_n 2, 1) := by decide +kernel
theorem dX7_volume_40 : decode cX7_volume 40 = .ok (.iconst 1, 1) := by decide +kernel
theorem dX7_volume_41 : decode cX7_volume 41 = .ok (.bipush 99, 2) := by decide +kernel
theorem dX7_volume_43 : decode cX7_volume 43 = .ok (.invokestatic 81, 3) := by decide +kernel
theorem dX7_volume_46 : decode cX7_volume 46 = .ok (.ifCond .eq 7, 3) := by decide +kernel
theorem dX7_volume_49 : decode cX7_volume 49 = .ok (.iconst 1, 1) := by decide +kernel
theorem dX7_volume_50 : decode cX7_volume 50 = .ok (.goto 4, 3) := by decide +kernel
theorem dX7_volume_53 : decode cX7_volume 53 = .ok (.iconst 0, 1) := by decide +kernel
theorem dX7_volume_54 : decode cX7_volume 54 = .ok (.istore_n 3, 1) := by decide +kernel
theorem dX7_volume_55 : decode cX7_volume 55 = .ok (.aload_n 0, 1) := by decide +kernel
theorem dX7_volume_56 : decode cX7_volume 56 = .ok (.iload_n 3, 1) := by decide +kernel
theorem dX7_volume_57 : decode cX7_volume 57 = .ok (.ifCond .ne 7, 3) := by decide +kernel
theorem dX7_volume_60 : decode cX7_volume 60 = .ok (.iconst 1, 1) := by decide +kernel
theorem dX7_volume_61 : decode cX7_volume 61 = .ok (.goto 16, 3) := by decide +kernel
theorem dX7_volume_64 : decode cX7_volume 64 = .ok (.aload_n 0, 1) := by decide +kernel
theorem dX7_volume_65 : decode cX7_volume 65 = .ok (.getfield 96, 3) := by decide +kernel
theorem dX7_volume_68 : decode cX7_volume 68 = .ok (.iconst 4, 1) := by decide +kernel
theorem dX7_volume_69 : decode cX7_volume 69 = .ok (.if_icmp .ne 7, 3) := by decide +kernel
theorem dX7_volume_72 : decode cX7_volume 72 = .ok (.iconst 2, 1) := by decide +kernel
theorem dX7_volume_73 : decode cX7_volume 73 = .ok (.goto 4, 3) := by decide +kernel
theorem dX7_volume_76 : decode cX7_volume 76 = .ok (.iconst 0, 1) := by decide +kernel
theorem dX7_volume_77 : decode cX7_volume 77 = .ok (.invokevirtual 103, 3) := by decide +kernel
theorem dX7_volume_80 : decode cX7_volume 80 = .ok (.ifCond .ne 5, 3) := by decide +kernel
theorem dX7_volume_83 : decode cX7_volume 83 = .ok (.iconst 0, 1) := by decide +kernel
theorem dX7_volume_84 : decode cX7_volume 84 = .ok (.ireturn, 1) := by decide +kernel
theorem dX7_volume_85 : decode cX7_volume 85 = .ok (.aload_n 0, 1) := by decide +kernel
theorem dX7_volume_86 : decode cX7_volume 86 = .ok (.getfield 56, 3) := by decide +kernel
theorem dX7_volume_89 : decode cX7_volume 89 = .ok (.aload_n 0, 1) := by decide +kernel
theorem dX7_volume_90 : decode cX7_volume 90 = .ok (.getfield 96, 3) := by decide +kernel
theorem dX7_volume_93 : decode cX7_volume 93 = .ok (.iload_n 1, 1) := by decide +kernel
theorem dX7_volume_94 : decode cX7_volume 94 = .ok (.bipush 97, 2) := by decide +kernel
theorem dX7_volume_96 : decode cX7_volume 96 = .ok (.isub, 1) := by decide +kernel
theorem dX7_volume_97 : decode cX7_volume 97 = .ok (.iconst 1, 1) := by decide +kernel
theorem dX7_volume_98 : decode cX7_volume 98 = .ok (.iadd, 1) := by decide +kernel
theorem dX7_volume_99 : decode cX7_volume 99 = .ok (.iastore, 1) := by decide +kernel
theorem dX7_volume_100 : decode cX7_volume 100 = .ok (.aload_n 0, 1) := by decide +kernel
theorem dX7_volume_101 : decode cX7_volume 101 = .ok (.getfield 59, 3) := by decide +kernel
theorem dX7_volume_104 : decode cX7_volume 104 = .ok (.aload_n 0, 1) := by decide +kernel
theorem dX7_volume_105 : decode cX7_volume 105 = .ok (.getfield 96, 3) := by decide +kernel
theorem dX7_volume_108 : decode cX7_volume 108 = .ok (.iload_n 2, 1) := by decide +kernel
theorem dX7_volume_109 : decode cX7_volume 109 = .ok (.iastore, 1) := by decide +kernel
theorem dX7_volume_110 : decode cX7_volume 110 = .ok (.aload_n 0, 1) := by decide +kernel
theorem dX7_volume_111 : decode cX7_volume 111 = .ok (.dup, 1) := by decide +kernel
theorem dX7_volume_112 : decode cX7_volume 112 = .ok (.getfield 96, 3) := by decide +kernel
theorem dX7_volume_115 : decode cX7_volume 115 = .ok (.iconst 1, 1) := by decide +kernel
theorem dX7_volume_116 : decode cX7_volume 116 = .ok (.iadd, 1) := by decide +kernel
theorem dX7_volume_117 : decode cX7_volume 117 = .ok (.putfield 96, 3) := by decide +kernel
theorem dX7_volume_120 : decode cX7_volume 120 = .ok (.aload_n 0, 1) := by decide +kernel
theorem dX7_volume_121 : decode cX7_volume 121 = .ok (.getfield 96, 3) := by decide +kernel
theorem dX7_volume_124 : decode cX7_volume 124 = .ok (.iconst 1, 1) := by decide +kernel
theorem dX7_volume_125 : decode cX7_volume 125 = .ok (.isub, 1) := by decide +kernel
theorem dX7_volume_126 : decode cX7_volume 126 = .ok (.ireturn, 1) := by decide +kernel
theorem dX7_isAhead_0 : decode cX7_isAhead 0 = .ok (.aload_n 0, 1) := by decide +kernel
theorem dX7_isAhead_1 : decode cX7_isAhead 1 = .ok (.iload_n 1, 1) := by decide +kernel
theorem dX7_isAhead_2 : decode cX7_isAhead 2 = .ok (.iload_n 2, 1) := by decide +kernel
theorem dX7_isAhead_3 : decode cX7_isAhead 3 = .ok (.invokevirtual 126, 3) := by decide +kernel
theorem dX7_isAhead_6 : decode cX7_isAhead 6 = .ok (.istore_n 3, 1) := by decide +kernel
theorem dX7_isAhead_7 : decode cX7_isAhead 7 = .ok (.iload_n 3, 1) := by decide +kernel
theorem dX7_isAhead_8 : decode cX7_isAhead 8 = .ok (.ifCond .lt 12, 3) := by decide +kernel
theorem dX7_isAhead_11 : decode cX7_isAhead 11 = .ok (.iload_n 3, 1) := by decide +kernel
theorem dX7_isAhead_12 : decode cX7_isAhead 12 = .ok (.ifCond .ne 12, 3) := by decide +kernel
theorem dX7_isAhead_15 : decode cX7_isAhead 15 = .ok (.iload_n 1, 1) := by decide +kernel
theorem dX7_isAhead_16 : decode cX7_isAhead 16 = .ok (.iload_n 2, 1) := by decide +kernel
theorem dX7_isAhead_17 : decode cX7_isAhead 17 = .ok (.if_icmp .ge 7, 3) := by decide +kernel
theorem dX7_isAhead_20 : decode cX7_isAhead 20 = .ok (.iconst 1, 1) := by decide +kernel
theorem dX7_isAhead_21 : decode cX7_isAhead 21 = .ok (.goto 4, 3) := by decide +kernel
theorem dX7_isAhead_24 : decode cX7_isAhead 24 = .ok (.iconst 0, 1) := by decide +kernel
theorem dX7_isAhead_25 : decode cX7_isAhead 25 = .ok (.ireturn, 1) := by decide +kernel
theorem dX7_columns_0 : decode cX7_columns 0 = .ok (.aload_n 0, 1) := by decide +kernel
theorem dX7_columns_1 : decode cX7_columns 1 = .ok (.iload_n 1, 1) := by decide +kernel
theorem dX7_columns_2 : decode cX7_columns 2 = .ok (.invokevirtual 129, 3) := by decide +kernel
theorem dX7_columns_5 : decode cX7_columns 5 = .ok (.istore_n 2, 1) := by decide +kernel
theorem dX7_columns_6 : decode cX7_columns 6 = .ok (.iconst 0, 1) := by decide +kernel
theorem dX7_columns_7 : decode cX7_columns 7 = .ok (.istore_n 3, 1) := by decide +kernel
theorem dX7_columns_8 : decode cX7_columns 8 = .ok (.iconst 0, 1) := by decide +kernel
theorem dX7_columns_9 : decode cX7_columns 9 = .ok (.istore 4, 2) := by decide +kernel
theorem dX7_columns_11 : decode cX7_columns 11 = .ok (.iload 4, 2) := by decide +kernel
theorem dX7_columns_13 : decode cX7_columns 13 = .ok (.aload_n 0, 1) := by decide +kernel
theorem dX7_columns_14 : decode cX7_columns 14 = .ok (.getfield 78, 3) := by decide +kernel
theorem dX7_columns_17 : decode cX7_columns 17 = .ok (.if_icmp .ge 38, 3) := by decide +kernel
theorem dX7_columns_20 : decode cX7_columns 20 = .ok (.iload_n 2, 1) := by decide +kernel
theorem dX7_columns_21 : decode cX7_columns 21 = .ok (.iconst (-1), 1) := by decide +kernel
theorem dX7_columns_22 : decode cX7_columns 22 = .ok (.if_icmp .eq 33, 3) := by decide +kernel
theorem dX7_columns_25 : decode cX7_columns 25 = .ok (.iload_n 3, 1) := by decide +kernel
theorem dX7_columns_26 : decode cX7_columns 26 = .ok (.aload_n 0, 1) := by decide +kernel
theorem dX7_columns_27 : decode cX7_columns 27 = .ok (.iload 4, 2) := by decide +kernel
theorem dX7_columns_29 : decode cX7_columns 29 = .ok (.invokevirtual 129, 3) := by decide +kernel
theorem dX7_columns_32 : decode cX7_columns 32 = .ok (.iload_n 2, 1) := by decide +kernel
theorem dX7_columns_33 : decode cX7_columns 33 = .ok (.if_icmp .ne 13, 3) := by decide +kernel
theorem dX7_columns_36 : decode cX7_columns 36 = .ok (.aload_n 0, 1) := by decide +kernel
theorem dX7_columns_37 : decode cX7_columns 37 = .ok (.getfield 19, 3) := by decide +kernel
theorem dX7_columns_40 : decode cX7_columns 40 = .ok (.iload 4, 2) := by decide +kernel
theorem dX7_columns_42 : decode cX7_columns 42 = .ok (.iaload, 1) := by decide +kernel
theorem dX7_columns_43 : decode cX7_columns 43 = .ok (.goto 4, 3) := by decide +kernel
theorem dX7_columns_46 : decode cX7_columns 46 = .ok (.iconst 0, 1) := by decide +kernel
theorem dX7_columns_47 : decode cX7_columns 47 = .ok (.iadd, 1) := by decide +kernel
theorem dX7_columns_48 : decode cX7_columns 48 = .ok (.istore_n 3, 1) := by decide +kernel
theorem dX7_columns_49 : decode cX7_columns 49 = .ok (.iinc 4 1, 3) := by decide +kernel
theorem dX7_columns_52 : decode cX7_columns 52 = .ok (.goto (-41), 3) := by decide +kernel
theorem dX7_columns_55 : decode cX7_columns 55 = .ok (.iload_n 3, 1) := by decide +kernel
theorem dX7_columns_56 : decode cX7_columns 56 = .ok (.ifCond .ne 5, 3) := by decide +kernel
theorem dX7_columns_59 : decode cX7_columns 59 = .ok (.iconst 0, 1) := by decide +kernel
theorem dX7_columns_60 : decode cX7_columns 60 = .ok (.ireturn, 1) := by decide +kernel
theorem dX7_columns_61 : decode cX7_columns 61 = .ok (.aload_n 0, 1) := by decide +kernel
theorem dX7_columns_62 : decode cX7_columns 62 = .ok (.getfield 59, 3) := by decide +kernel
theorem dX7_columns_65 : decode cX7_columns 65 = .ok (.iload_n 2, 1) := by decide +kernel
theorem dX7_columns_66 : decode cX7_columns 66 = .ok (.iaload, 1) := by decide +kernel
theorem dX7_columns_67 : decode cX7_columns 67 = .ok (.istore 4, 2) := by decide +kernel
theorem dX7_columns_69 : decode cX7_columns 69 = .ok (.iconst 0, 1) := by decide +kernel
theorem dX7_columns_70 : decode cX7_columns 70 = .ok (.istore 5, 2) := by decide +kernel
theorem dX7_columns_72 : decode cX7_columns 72 = .ok (.iload 5, 2) := by decide +kernel
theorem dX7_columns_74 : decode cX7_columns 74 = .ok (.aload_n 0, 1) := by decide +kernel
theorem dX7_columns_75 : decode cX7_columns 75 = .ok (.getfield 78, 3) := by decide +kernel
theorem dX7_columns_78 : decode cX7_columns 78 = .ok (.if_icmp .ge 44, 3) := by decide +kernel
theorem dX7_columns_81 : decode cX7_columns 81 = .ok (.iload 4, 2) := by decide +kernel
theorem dX7_columns_83 : decode cX7_columns 83 = .ok (.aload_n 0, 1) := by decide +kernel
theorem dX7_columns_84 : decode cX7_columns 84 = .ok (.iload 5, 2) := by decide +kernel
theorem dX7_columns_86 : decode cX7_columns 86 = .ok (.invokevirtual 129, 3) := by decide +kernel
theorem dX7_columns_89 : decode cX7_columns 89 = .ok (.iload_n 2, 1) := by decide +kernel
theorem dX7_columns_90 : decode cX7_columns 90 = .ok (.if_icmp .ne 22, 3) := by decide +kernel
theorem dX7_columns_93 : decode cX7_columns 93 = .ok (.aload_n 0, 1) := by decide +kernel
theorem dX7_columns_94 : decode cX7_columns 94 = .ok (.getfield 59, 3) := by decide +kernel
theorem dX7_columns_97 : decode cX7_columns 97 = .ok (.iload_n 2, 1) := by decide +kernel
theorem dX7_columns_98 : decode cX7_columns 98 = .ok (.iaload, 1) := by decide +kernel
theorem dX7_columns_99 : decode cX7_columns 99 = .ok (.aload_n 0, 1) := by decide +kernel
theorem dX7_columns_100 : decode cX7_columns 100 = .ok (.getfield 19, 3) := by decide +kernel
theorem dX7_columns_103 : decode cX7_columns 103 = .ok (.iload 5, 2) := by decide +kernel
theorem dX7_columns_105 : decode cX7_columns 105 = .ok (.iaload, 1) := by decide +kernel
theorem dX7_columns_106 : decode cX7_columns 106 = .ok (.imul, 1) := by decide +kernel
theorem dX7_columns_107 : decode cX7_columns 107 = .ok (.iload_n 3, 1) := by decide +kernel
theorem dX7_columns_108 : decode cX7_columns 108 = .ok (.idiv, 1) := by decide +kernel
theorem dX7_columns_109 : decode cX7_columns 109 = .ok (.goto 4, 3) := by decide +kernel
theorem dX7_columns_112 : decode cX7_columns 112 = .ok (.iconst 0, 1) := by decide +kernel
theorem dX7_columns_113 : decode cX7_columns 113 = .ok (.isub, 1) := by decide +kernel
theorem dX7_columns_114 : decode cX7_columns 114 = .ok (.istore 4, 2) := by decide +kernel
theorem dX7_columns_116 : decode cX7_columns 116 = .ok (.iinc 5 1, 3) := by decide +kernel
theorem dX7_columns_119 : decode cX7_columns 119 = .ok (.goto (-47), 3) := by decide +kernel
theorem dX7_columns_122 : decode cX7_columns 122 = .ok (.aload_n 0, 1) := by decide +kernel
theorem dX7_columns_123 : decode cX7_columns 123 = .ok (.getfield 59, 3) := by decide +kernel
theorem dX7_columns_126 : decode cX7_columns 126 = .ok (.iload_n 2, 1) := by decide +kernel
theorem dX7_columns_127 : decode cX7_columns 127 = .ok (.iaload, 1) := by decide +kernel
theorem dX7_columns_128 : decode cX7_columns 128 = .ok (.aload_n 0, 1) := by decide +kernel
theorem dX7_columns_129 : decode cX7_columns 129 = .ok (.getfield 19, 3) := by decide +kernel
theorem dX7_columns_132 : decode cX7_columns 132 = .ok (.iload_n 1, 1) := by decide +kernel
theorem dX7_columns_133 : decode cX7_columns 133 = .ok (.iaload, 1) := by decide +kernel
theorem dX7_columns_134 : decode cX7_columns 134 = .ok (.imul, 1) := by decide +kernel
theorem dX7_columns_135 : decode cX7_columns 135 = .ok (.iload_n 3, 1) := by decide +kernel
theorem dX7_columns_136 : decode cX7_columns 136 = .ok (.irem, 1) := by decide +kernel
theorem dX7_columns_137 : decode cX7_columns 137 = .ok (.istore 5, 2) := by decide +kernel
theorem dX7_columns_139 : decode cX7_columns 139 = .ok (.iconst 0, 1) := by decide +kernel
theorem dX7_columns_140 : decode cX7_columns 140 = .ok (.istore 6, 2) := by decide +kernel
theorem dX7_columns_142 : decode cX7_columns 142 = .ok (.iconst 0, 1) := by decide +kernel
theorem dX7_columns_143 : decode cX7_columns 143 = .ok (.istore 7, 2) := by decide +kernel
theorem dX7_columns_145 : decode cX7_columns 145 = .ok (.iload 7, 2) := by decide +kernel
theorem dX7_columns_147 : decode cX7_columns 147 = .ok (.aload_n 0, 1) := by decide +kernel
theorem dX7_columns_148 : decode cX7_columns 148 = .ok (.getfield 78, 3) := by decide +kernel
theorem dX7_columns_151 : decode cX7_columns 151 = .ok (.if_icmp .ge 91, 3) := by decide +kernel
theorem dX7_columns_154 : decode cX7_columns 154 = .ok (.aload_n 0, 1) := by decide +kernel
theorem dX7_columns_155 : decode cX7_columns 155 = .ok (.iload 7, 2) := by decide +kernel
theorem dX7_columns_157 : decode cX7_columns 157 = .ok (.invokevirtual 129, 3) := by decide +kernel
theorem dX7_columns_160 : decode cX7_columns 160 = .ok (.iload_n 2, 1) := by decide +kernel
theorem dX7_columns_161 : decode cX7_columns 161 = .ok (.if_icmp .ne 32, 3) := by decide +kernel
theorem dX7_columns_164 : decode cX7_columns 164 = .ok (.aload_n 0, 1) := by decide +kernel
theorem dX7_columns_165 : decode cX7_columns 165 = .ok (.getfield 19, 3) := by decide +kernel
theorem dX7_columns_168 : decode cX7_columns 168 = .ok (.iload 7, 2) := by decide +kernel
theorem dX7_columns_170 : decode cX7_columns 170 = .ok (.iaload, 1) := by decide +kernel
theorem dX7_columns_171 : decode cX7_columns 171 = .ok (.ifCond .le 22, 3) := by decide +kernel
theorem dX7_columns_174 : decode cX7_columns 174 = .ok (.aload_n 0, 1) := by decide +kernel
theorem dX7_columns_175 : decode cX7_columns 175 = .ok (.getfield 59, 3) := by decide +kernel
theorem dX7_columns_178 : decode cX7_columns 178 = .ok (.iload_n 2, 1) := by decide +kernel
theorem dX7_columns_179 : decode cX7_columns 179 = .ok (.iaload, 1) := by decide +kernel
theorem dX7_columns_180 : decode cX7_columns 180 = .ok (.aload_n 0, 1) := by decide +kernel
theorem dX7_columns_181 : decode cX7_columns 181 = .ok (.getfield 19, 3) := by decide +kernel
theorem dX7_columns_184 : decode cX7_columns 184 = .ok (.iload 7, 2) := by decide +kernel
theorem dX7_columns_186 : decode cX7_columns 186 = .ok (.iaload, 1) := by decide +kernel
theorem dX7_columns_187 : decode cX7_columns 187 = .ok (.imul, 1) := by decide +kernel
theorem dX7_columns_188 : decode cX7_columns 188 = .ok (.iload_n 3, 1) := by decide +kernel
theorem dX7_columns_189 : decode cX7_columns 189 = .ok (.irem, 1) := by decide +kernel
theorem dX7_columns_190 : decode cX7_columns 190 = .ok (.goto 4, 3) := by decide +kernel
theorem dX7_columns_193 : decode cX7_columns 193 = .ok (.iconst (-1), 1) := by decide +kernel
theorem dX7_columns_194 : decode cX7_columns 194 = .ok (.istore 8, 2) := by decide +kernel
theorem dX7_columns_196 : decode cX7_columns 196 = .ok (.iload 6, 2) := by decide +kernel
theorem dX7_columns_198 : decode cX7_columns 198 = .ok (.iload 7, 2) := by decide +kernel
theorem dX7_columns_200 : decode cX7_columns 200 = .ok (.iload_n 1, 1) := by decide +kernel
theorem dX7_columns_201 : decode cX7_columns 201 = .ok (.if_icmp .eq 31, 3) := by decide +kernel
theorem dX7_columns_204 : decode cX7_columns 204 = .ok (.iload 8, 2) := by decide +kernel
theorem dX7_columns_206 : decode cX7_columns 206 = .ok (.iload 5, 2) := by decide +kernel
theorem dX7_columns_208 : decode cX7_columns 208 = .ok (.if_icmp .gt 20, 3) := by decide +kernel
theorem dX7_columns_211 : decode cX7_columns 211 = .ok (.iload 8, 2) := by decide +kernel
theorem dX7_columns_213 : decode cX7_columns 213 = .ok (.iload 5, 2) := by decide +kernel
theorem dX7_columns_215 : decode cX7_columns 215 = .ok (.if_icmp .ne 17, 3) := by decide +kernel
theorem dX7_columns_218 : decode cX7_columns 218 = .ok (.aload_n 0, 1) := by decide +kernel
theorem dX7_columns_219 : decode cX7_columns 219 = .ok (.iload 7, 2) := by decide +kernel
theorem dX7_columns_221 : decode cX7_columns 221 = .ok (.iload_n 1, 1) := by decide +kernel
theorem dX7_columns_222 : decode cX7_columns 222 = .ok (.invokevirtual 132, 3) := by decide +kernel
theorem dX7_columns_225 : decode cX7_columns 225 = .ok (.ifCond .eq 7, 3) := by decide +kernel
theorem dX7_columns_228 : decode cX7_columns 228 = .ok (.iconst 1, 1) := by decide +kernel
theorem dX7_columns_229 : decode cX7_columns 229 = .ok (.goto 4, 3) := by decide +kernel
theorem dX7_columns_232 : decode cX7_columns 232 = .ok (.iconst 0, 1) := by decide +kernel
theorem dX7_columns_233 : decode cX7_columns 233 = .ok (.iadd, 1) := by decide +kernel
theorem dX7_columns_234 : decode cX7_columns 234 = .ok (.istore 6, 2) := by decide +kernel
theorem dX7_columns_236 : decode cX7_columns 236 = .ok (.iinc 7 1, 3) := by decide +kernel
theorem dX7_columns_239 : decode cX7_columns 239 = .ok (.goto (-94), 3) := by decide +kernel
theorem dX7_columns_242 : decode cX7_columns 242 = .ok (.aload_n 0, 1) := by decide +kernel
theorem dX7_columns_243 : decode cX7_columns 243 = .ok (.getfield 59, 3) := by decide +kernel
theorem dX7_columns_246 : decode cX7_columns 246 = .ok (.iload_n 2, 1) := by decide +kernel
theorem dX7_columns_247 : decode cX7_columns 247 = .ok (.iaload, 1) := by decide +kernel
theorem dX7_columns_248 : decode cX7_columns 248 = .ok (.aload_n 0, 1) := by decide +kernel
theorem dX7_columns_249 : decode cX7_columns 249 = .ok (.getfield 19, 3) := by decide +kernel
theorem dX7_columns_252 : decode cX7_columns 252 = .ok (.iload_n 1, 1) := by decide +kernel
theorem dX7_columns_253 : decode cX7_columns 253 = .ok (.iaload, 1) := by decide +kernel
theorem dX7_columns_254 : decode cX7_columns 254 = .ok (.imul, 1) := by decide +kernel
theorem dX7_columns_255 : decode cX7_columns 255 = .ok (.iload_n 3, 1) := by decide +kernel
theorem dX7_columns_256 : decode cX7_columns 256 = .ok (.idiv, 1) := by decide +kernel
theorem dX7_columns_257 : decode cX7_columns 257 = .ok (.aload_n 0, 1) := by decide +kernel
theorem dX7_columns_258 : decode cX7_columns 258 = .ok (.getfield 19, 3) := by decide +kernel
theorem dX7_columns_261 : decode cX7_columns 261 = .ok (.iload_n 1, 1) := by decide +kernel
theorem dX7_columns_262 : decode cX7_columns 262 = .ok (.iaload, 1) := by decide +kernel
theorem dX7_columns_263 : decode cX7_columns 263 = .ok (.ifCond .le 14, 3) := by decide +kernel
theorem dX7_columns_266 : decode cX7_columns 266 = .ok (.iload 6, 2) := by decide +kernel
theorem dX7_columns_268 : decode cX7_columns 268 = .ok (.iload 4, 2) := by decide +kernel
theorem dX7_columns_270 : decode cX7_columns 270 = .ok (.if_icmp .ge 7, 3) := by decide +kernel
theorem dX7_columns_273 : decode cX7_columns 273 = .ok (.iconst 1, 1) := by decide +kernel
theorem dX7_columns_274 : decode cX7_columns 274 = .ok (.goto 4, 3) := by decide +kernel
theorem dX7_columns_277 : decode cX7_columns 277 = .ok (.iconst 0, 1) := by decide +kernel
theorem dX7_columns_278 : decode cX7_columns 278 = .ok (.iadd, 1) := by decide +kernel
theorem dX7_columns_279 : decode cX7_columns 279 = .ok (.ireturn, 1) := by decide +kernel
theorem dX7_contributor_0 : decode cX7_contributor 0 = .ok (.aload_n 0, 1) := by decide +kernel
theorem dX7_contributor_1 : decode cX7_contributor 1 = .ok (.iload_n 1, 1) := by decide +kernel
theorem dX7_contributor_2 : decode cX7_contributor 2 = .ok (.iconst 1, 1) := by decide +kernel
theorem dX7_contributor_3 : decode cX7_contributor 3 = .ok (.bipush 9, 2) := by decide +kernel
theorem dX7_contributor_5 : decode cX7_contributor 5 = .ok (.invokestatic 81, 3) := by decide +kernel
theorem dX7_contributor_8 : decode cX7_contributor 8 = .ok (.ifCond .ne 7, 3) := by decide +kernel
theorem dX7_contributor_11 : decode cX7_contributor 11 = .ok (.iconst 1, 1) := by decide +kernel
theorem dX7_contributor_12 : decode cX7_contributor 12 = .ok (.goto 17, 3) := by decide +kernel
theorem dX7_contributor_15 : decode cX7_contributor 15 = .ok (.aload_n 0, 1) := by decide +kernel
theorem dX7_contributor_16 : decode cX7_contributor 16 = .ok (.getfield 85, 3) := by decide +kernel
theorem dX7_contributor_19 : decode cX7_contributor 19 = .ok (.bipush 6, 2) := by decide +kernel
theorem dX7_contributor_21 : decode cX7_contributor 21 = .ok (.if_icmp .ne 7, 3) := by decide +kernel
theorem dX7_contributor_24 : decode cX7_contributor 24 = .ok (.iconst 2, 1) := by decide +kernel
theorem dX7_contributor_25 : decode cX7_contributor 25 = .ok (.goto 4, 3) := by decide +kernel
theorem dX7_contributor_28 : decode cX7_contributor 28 = .ok (.iconst 0, 1) := by decide +kernel
theorem dX7_contributor_29 : decode cX7_contributor 29 = .ok (.invokevirtual 103, 3) := by decide +kernel
theorem dX7_contributor_32 : decode cX7_contributor 32 = .ok (.ifCond .ne 5, 3) := by decide +kernel
theorem dX7_contributor_35 : decode cX7_contributor 35 = .ok (.iconst 0, 1) := by decide +kernel
theorem dX7_contributor_36 : decode cX7_contributor 36 = .ok (.ireturn, 1) := by decide +kernel
theorem dX7_contributor_37 : decode cX7_contributor 37 = .ok (.aload_n 0, 1) := by decide +kernel
theorem dX7_contributor_38 : decode cX7_contributor 38 = .ok (.getfield 62, 3) := by decide +kernel
theorem dX7_contributor_41 : decode cX7_contributor 41 = .ok (.aload_n 0, 1) := by decide +kernel
theorem dX7_contributor_42 : decode cX7_contributor 42 = .ok (.getfield 85, 3) := by decide +kernel
theorem dX7_contributor_45 : decode cX7_contributor 45 = .ok (.iload_n 1, 1) := by decide +kernel
theorem dX7_contributor_46 : decode cX7_contributor 46 = .ok (.iastore, 1) := by decide +kernel
theorem dX7_contributor_47 : decode cX7_contributor 47 = .ok (.aload_n 0, 1) := by decide +kernel
theorem dX7_contributor_48 : decode cX7_contributor 48 = .ok (.dup, 1) := by decide +kernel
theorem dX7_contributor_49 : decode cX7_contributor 49 = .ok (.getfield 85, 3) := by decide +kernel
theorem dX7_contributor_52 : decode cX7_contributor 52 = .ok (.iconst 1, 1) := by decide +kernel
theorem dX7_contributor_53 : decode cX7_contributor 53 = .ok (.iadd, 1) := by decide +kernel
theorem dX7_contributor_54 : decode cX7_contributor 54 = .ok (.putfield 85, 3) := by decide +kernel
theorem dX7_contributor_57 : decode cX7_contributor 57 = .ok (.aload_n 0, 1) := by decide +kernel
theorem dX7_contributor_58 : decode cX7_contributor 58 = .ok (.getfield 85, 3) := by decide +kernel
theorem dX7_contributor_61 : decode cX7_contributor 61 = .ok (.iconst 1, 1) := by decide +kernel
theorem dX7_contributor_62 : decode cX7_contributor 62 = .ok (.isub, 1) := by decide +kernel
theorem dX7_contributor_63 : decode cX7_contributor 63 = .ok (.ireturn, 1) := by decide +kernel
theorem dX7_quarrel_0 : decode cX7_quarrel 0 = .ok (.aload_n 0, 1) := by decide +kernel
theorem dX7_quarrel_1 : decode cX7_quarrel 1 = .ok (.iload_n 1, 1) := by decide +kernel
theorem dX7_quarrel_2 : decode cX7_quarrel 2 = .ok (.invokevirtual 136, 3) := by decide +kernel
theorem dX7_quarrel_5 : decode cX7_quarrel 5 = .ok (.ifCond .eq 15, 3) := by decide +kernel
theorem dX7_quarrel_8 : decode cX7_quarrel 8 = .ok (.aload_n 0, 1) := by decide +kernel
theorem dX7_quarrel_9 : decode cX7_quarrel 9 = .ok (.iload_n 2, 1) := by decide +kernel
theorem dX7_quarrel_10 : decode cX7_quarrel 10 = .ok (.invokevirtual 136, 3) := by decide +kernel
theorem dX7_quarrel_13 : decode cX7_quarrel 13 = .ok (.ifCond .eq 7, 3) := by decide +kernel
theorem dX7_quarrel_16 : decode cX7_quarrel 16 = .ok (.iconst 1, 1) := by decide +kernel
theorem dX7_quarrel_17 : decode cX7_quarrel 17 = .ok (.goto 4, 3) := by decide +kernel
theorem dX7_quarrel_20 : decode cX7_quarrel 20 = .ok (.iconst 0, 1) := by decide +kernel
theorem dX7_quarrel_21 : decode cX7_quarrel 21 = .ok (.istore_n 3, 1) := by decide +kernel
theorem dX7_quarrel_22 : decode cX7_quarrel 22 = .ok (.aload_n 0, 1) := by decide +kernel
theorem dX7_quarrel_23 : decode cX7_quarrel 23 = .ok (.iload_n 3, 1) := by decide +kernel
theorem dX7_quarrel_24 : decode cX7_quarrel 24 = .ok (.ifCond .ne 7, 3) := by decide +kernel
theorem dX7_quarrel_27 : decode cX7_quarrel 27 = .ok (.iconst 1, 1) := by decide +kernel
theorem dX7_quarrel_28 : decode cX7_quarrel 28 = .ok (.goto 13, 3) := by decide +kernel
theorem dX7_quarrel_31 : decode cX7_quarrel 31 = .ok (.iload_n 1, 1) := by decide +kernel
theorem dX7_quarrel_32 : decode cX7_quarrel 32 = .ok (.iload_n 2, 1) := by decide +kernel
theorem dX7_quarrel_33 : decode cX7_quarrel 33 = .ok (.if_icmp .ne 7, 3) := by decide +kernel
theorem dX7_quarrel_36 : decode cX7_quarrel 36 = .ok (.iconst 2, 1) := by decide +kernel
theorem dX7_quarrel_37 : decode cX7_quarrel 37 = .ok (.goto 4, 3) := by decide +kernel
theorem dX7_quarrel_40 : decode cX7_quarrel 40 = .ok (.iconst 0, 1) := by decide +kernel
theorem dX7_quarrel_41 : decode cX7_quarrel 41 = .ok (.invokevirtual 103, 3) := by decide +kernel
theorem dX7_quarrel_44 : decode cX7_quarrel 44 = .ok (.ifCond .ne 5, 3) := by decide +kernel
theorem dX7_quarrel_47 : decode cX7_quarrel 47 = .ok (.iconst 0, 1) := by decide +kernel
theorem dX7_quarrel_48 : decode cX7_quarrel 48 = .ok (.ireturn, 1) := by decide +kernel
theorem dX7_quarrel_49 : decode cX7_quarrel 49 = .ok (.aload_n 0, 1) := by decide +kernel
theorem dX7_quarrel_50 : decode cX7_quarrel 50 = .ok (.getfield 68, 3) := by decide +kernel
theorem dX7_quarrel_53 : decode cX7_quarrel 53 = .ok (.bipush 6, 2) := by decide +kernel
theorem dX7_quarrel_55 : decode cX7_quarrel 55 = .ok (.iload_n 1, 1) := by decide +kernel
theorem dX7_quarrel_56 : decode cX7_quarrel 56 = .ok (.imul, 1) := by decide +kernel
theorem dX7_quarrel_57 : decode cX7_quarrel 57 = .ok (.iload_n 2, 1) := by decide +kernel
theorem dX7_quarrel_58 : decode cX7_quarrel 58 = .ok (.iadd, 1) := by decide +kernel
theorem dX7_quarrel_59 : decode cX7_quarrel 59 = .ok (.baload, 1) := by decide +kernel
theorem dX7_quarrel_60 : decode cX7_quarrel 60 = .ok (.istore 4, 2) := by decide +kernel
theorem dX7_quarrel_62 : decode cX7_quarrel 62 = .ok (.aload_n 0, 1) := by decide +kernel
theorem dX7_quarrel_63 : decode cX7_quarrel 63 = .ok (.getfield 68, 3) := by decide +kernel
theorem dX7_quarrel_66 : decode cX7_quarrel 66 = .ok (.bipush 6, 2) := by decide +kernel
theorem dX7_quarrel_68 : decode cX7_quarrel 68 = .ok (.iload_n 1, 1) := by decide +kernel
theorem dX7_quarrel_69 : decode cX7_quarrel 69 = .ok (.imul, 1) := by decide +kernel
theorem dX7_quarrel_70 : decode cX7_quarrel 70 = .ok (.iload_n 2, 1) := by decide +kernel
theorem dX7_quarrel_71 : decode cX7_quarrel 71 = .ok (.iadd, 1) := by decide +kernel
theorem dX7_quarrel_72 : decode cX7_quarrel 72 = .ok (.iconst 1, 1) := by decide +kernel
theorem dX7_quarrel_73 : decode cX7_quarrel 73 = .ok (.bastore, 1) := by decide +kernel
theorem dX7_quarrel_74 : decode cX7_quarrel 74 = .ok (.aload_n 0, 1) := by decide +kernel
theorem dX7_quarrel_75 : decode cX7_quarrel 75 = .ok (.getfield 68, 3) := by decide +kernel
theorem dX7_quarrel_78 : decode cX7_quarrel 78 = .ok (.bipush 6, 2) := by decide +kernel
theorem dX7_quarrel_80 : decode cX7_quarrel 80 = .ok (.iload_n 2, 1) := by decide +kernel
theorem dX7_quarrel_81 : decode cX7_quarrel 81 = .ok (.imul, 1) := by decide +kernel
theorem dX7_quarrel_82 : decode cX7_quarrel 82 = .ok (.iload_n 1, 1) := by decide +kernel
theorem dX7_quarrel_83 : decode cX7_quarrel 83 = .ok (.iadd, 1) := by decide +kernel
theorem dX7_quarrel_84 : decode cX7_quarrel 84 = .ok (.iconst 1, 1) := by decide +kernel
theorem dX7_quarrel_85 : decode cX7_quarrel 85 = .ok (.bastore, 1) := by decide +kernel
theorem dX7_quarrel_86 : decode cX7_quarrel 86 = .ok (.iload 4, 2) := by decide +kernel
theorem dX7_quarrel_88 : decode cX7_quarrel 88 = .ok (.ireturn, 1) := by decide +kernel
theorem dX7_refersTo_0 : decode cX7_refersTo 0 = .ok (.iconst 0, 1) := by decide +kernel
theorem dX7_refersTo_1 : decode cX7_refersTo 1 = .ok (.istore_n 3, 1) := by decide +kernel
theorem dX7_refersTo_2 : decode cX7_refersTo 2 = .ok (.iconst 0, 1) := by decide +kernel
theorem dX7_refersTo_3 : decode cX7_refersTo 3 = .ok (.istore 4, 2) := by decide +kernel
theorem dX7_refersTo_5 : decode cX7_refersTo 5 = .ok (.iload 4, 2) := by decide +kernel
theorem dX7_refersTo_7 : decode cX7_refersTo 7 = .ok (.aload_n 0, 1) := by decide +kernel
theorem dX7_refersTo_8 : decode cX7_refersTo 8 = .ok (.getfield 38, 3) := by decide +kernel
theorem dX7_refersTo_11 : decode cX7_refersTo 11 = .ok (.iload_n 1, 1) := by decide +kernel
theorem dX7_refersTo_12 : decode cX7_refersTo 12 = .ok (.iaload, 1) := by decide +kernel
theorem dX7_refersTo_13 : decode cX7_refersTo 13 = .ok (.if_icmp .ge 33, 3) := by decide +kernel
theorem dX7_refersTo_16 : decode cX7_refersTo 16 = .ok (.iload_n 3, 1) := by decide +kernel
theorem dX7_refersTo_17 : decode cX7_refersTo 17 = .ok (.ifCond .ne 17, 3) := by decide +kernel
theorem dX7_refersTo_20 : decode cX7_refersTo 20 = .ok (.aload_n 0, 1) := by decide +kernel
theorem dX7_refersTo_21 : decode cX7_refersTo 21 = .ok (.iload_n 1, 1) := by decide +kernel
theorem dX7_refersTo_22 : decode cX7_refersTo 22 = .ok (.iload 4, 2) := by decide +kernel
theorem dX7_refersTo_24 : decode cX7_refersTo 24 = .ok (.invokestatic 120, 3) := by decide +kernel
theorem dX7_refersTo_27 : decode cX7_refersTo 27 = .ok (.iload_n 2, 1) := by decide +kernel
theorem dX7_refersTo_28 : decode cX7_refersTo 28 = .ok (.invokevirtual 126, 3) := by decide +kernel
theorem dX7_refersTo_31 : decode cX7_refersTo 31 = .ok (.ifCond .ne 7, 3) := by decide +kernel
theorem dX7_refersTo_34 : decode cX7_refersTo 34 = .ok (.iconst 1, 1) := by decide +kernel
theorem dX7_refersTo_35 : decode cX7_refersTo 35 = .ok (.goto 4, 3) := by decide +kernel
theorem dX7_refersTo_38 : decode cX7_refersTo 38 = .ok (.iconst 0, 1) := by decide +kernel
theorem dX7_refersTo_39 : decode cX7_refersTo 39 = .ok (.istore_n 3, 1) := by decide +kernel
theorem dX7_refersTo_40 : decode cX7_refersTo 40 = .ok (.iinc 4 1, 3) := by decide +kernel
theorem dX7_refersTo_43 : decode cX7_refersTo 43 = .ok (.goto (-38), 3) := by decide +kernel
theorem dX7_refersTo_46 : decode cX7_refersTo 46 = .ok (.iload_n 3, 1) := by decide +kernel
theorem dX7_refersTo_47 : decode cX7_refersTo 47 = .ok (.ireturn, 1) := by decide +kernel
theorem dX7_isBarred_0 : decode cX7_isBarred 0 = .ok (.iconst 0, 1) := by decide +kernel
theorem dX7_isBarred_1 : decode cX7_isBarred 1 = .ok (.istore_n 3, 1) := by decide +kernel
theorem dX7_isBarred_2 : decode cX7_isBarred 2 = .ok (.iconst 0, 1) := by decide +kernel
theorem dX7_isBarred_3 : decode cX7_isBarred 3 = .ok (.istore 4, 2) := by decide +kernel
theorem dX7_isBarred_5 : decode cX7_isBarred 5 = .ok (.iload 4, 2) := by decide +kernel
theorem dX7_isBarred_7 : decode cX7_isBarred 7 = .ok (.aload_n 0, 1) := by decide +kernel
theorem dX7_isBarred_8 : decode cX7_isBarred 8 = .ok (.getfield 78, 3) := by decide +kernel
theorem dX7_isBarred_11 : decode cX7_isBarred 11 = .ok (.if_icmp .ge 82, 3) := by decide +kernel
theorem dX7_isBarred_14 : decode cX7_isBarred 14 = .ok (.aload_n 0, 1) := by decide +kernel
theorem dX7_isBarred_15 : decode cX7_isBarred 15 = .ok (.getfield 25, 3) := by decide +kernel
theorem dX7_isBarred_18 : decode cX7_isBarred 18 = .ok (.iload 4, 2) := by decide +kernel
theorem dX7_isBarred_20 : decode cX7_isBarred 20 = .ok (.iaload, 1) := by decide +kernel
theorem dX7_isBarred_21 : decode cX7_isBarred 21 = .ok (.iconst (-1), 1) := by decide +kernel
theorem dX7_isBarred_22 : decode cX7_isBarred 22 = .ok (.if_icmp .eq 27, 3) := by decide +kernel
end
section
theorem dX7_isBarred_25 : decode cX7_isBarred 25 = .ok (.aload_n 0, 1) := by decide +kernel
theorem dX7_isBarred_26 : decode cX7_isBarred 26 = .ok (.getfield 68, 3) := by decide +kernel
theorem dX7_isBarred_29 : decode cX7_isBarred 29 = .ok (.bipush 6, 2) := by decide +kernel
theorem dX7_isBarred_31 : decode cX7_isBarred 31 = .ok (.iload_n 2, 1) := by decide +kernel
theorem dX7_isBarred_32 : decode cX7_isBarred 32 = .ok (.imul, 1) := by decide +kernel
theorem dX7_isBarred_33 : decode cX7_isBarred 33 = .ok (.aload_n 0, 1) := by decide +kernel
theorem dX7_isBarred_34 : decode cX7_isBarred 34 = .ok (.getfield 25, 3) := by decide +kernel
theorem dX7_isBarred_37 : decode cX7_isBarred 37 = .ok (.iload 4, 2) := by decide +kernel
theorem dX7_isBarred_39 : decode cX7_isBarred 39 = .ok (.iaload, 1) := by decide +kernel
theorem dX7_isBarred_40 : decode cX7_isBarred 40 = .ok (.iadd, 1) := by decide +kernel
theorem dX7_isBarred_41 : decode cX7_isBarred 41 = .ok (.baload, 1) := by decide +kernel
theorem dX7_isBarred_42 : decode cX7_isBarred 42 = .ok (.ifCond .eq 7, 3) := by decide +kernel
theorem dX7_isBarred_45 : decode cX7_isBarred 45 = .ok (.iconst 1, 1) := by decide +kernel
theorem dX7_isBarred_46 : decode cX7_isBarred 46 = .ok (.goto 4, 3) := by decide +kernel
theorem dX7_isBarred_49 : decode cX7_isBarred 49 = .ok (.iconst 0, 1) := by decide +kernel
theorem dX7_isBarred_50 : decode cX7_isBarred 50 = .ok (.istore 5, 2) := by decide +kernel
theorem dX7_isBarred_52 : decode cX7_isBarred 52 = .ok (.iload_n 3, 1) := by decide +kernel
theorem dX7_isBarred_53 : decode cX7_isBarred 53 = .ok (.ifCond .ne 28, 3) := by decide +kernel
theorem dX7_isBarred_56 : decode cX7_isBarred 56 = .ok (.iload 5, 2) := by decide +kernel
theorem dX7_isBarred_58 : decode cX7_isBarred 58 = .ok (.ifCond .eq 27, 3) := by decide +kernel
theorem dX7_isBarred_61 : decode cX7_isBarred 61 = .ok (.aload_n 0, 1) := by decide +kernel
theorem dX7_isBarred_62 : decode cX7_isBarred 62 = .ok (.iload_n 1, 1) := by decide +kernel
theorem dX7_isBarred_63 : decode cX7_isBarred 63 = .ok (.iload 4, 2) := by decide +kernel
theorem dX7_isBarred_65 : decode cX7_isBarred 65 = .ok (.invokevirtual 139, 3) := by decide +kernel
theorem dX7_isBarred_68 : decode cX7_isBarred 68 = .ok (.ifCond .ne 13, 3) := by decide +kernel
theorem dX7_isBarred_71 : decode cX7_isBarred 71 = .ok (.aload_n 0, 1) := by decide +kernel
theorem dX7_isBarred_72 : decode cX7_isBarred 72 = .ok (.iload 4, 2) := by decide +kernel
theorem dX7_isBarred_74 : decode cX7_isBarred 74 = .ok (.iload_n 1, 1) := by decide +kernel
theorem dX7_isBarred_75 : decode cX7_isBarred 75 = .ok (.invokevirtual 139, 3) := by decide +kernel
theorem dX7_isBarred_78 : decode cX7_isBarred 78 = .ok (.ifCond .eq 7, 3) := by decide +kernel
theorem dX7_isBarred_81 : decode cX7_isBarred 81 = .ok (.iconst 1, 1) := by decide +kernel
theorem dX7_isBarred_82 : decode cX7_isBarred 82 = .ok (.goto 4, 3) := by decide +kernel
theorem dX7_isBarred_85 : decode cX7_isBarred 85 = .ok (.iconst 0, 1) := by decide +kernel
theorem dX7_isBarred_86 : decode cX7_isBarred 86 = .ok (.istore_n 3, 1) := by decide +kernel
theorem dX7_isBarred_87 : decode cX7_isBarred 87 = .ok (.iinc 4 1, 3) := by decide +kernel
theorem dX7_isBarred_90 : decode cX7_isBarred 90 = .ok (.goto (-85), 3) := by decide +kernel
theorem dX7_isBarred_93 : decode cX7_isBarred 93 = .ok (.iload_n 3, 1) := by decide +kernel
theorem dX7_isBarred_94 : decode cX7_isBarred 94 = .ok (.ireturn, 1) := by decide +kernel
theorem dX7_canBeGiven_0 : decode cX7_canBeGiven 0 = .ok (.aload_n 0, 1) := by decide +kernel
theorem dX7_canBeGiven_1 : decode cX7_canBeGiven 1 = .ok (.iload_n 1, 1) := by decide +kernel
theorem dX7_canBeGiven_2 : decode cX7_canBeGiven 2 = .ok (.invokevirtual 129, 3) := by decide +kernel
theorem dX7_canBeGiven_5 : decode cX7_canBeGiven 5 = .ok (.istore_n 3, 1) := by decide +kernel
theorem dX7_canBeGiven_6 : decode cX7_canBeGiven 6 = .ok (.aload_n 0, 1) := by decide +kernel
theorem dX7_canBeGiven_7 : decode cX7_canBeGiven 7 = .ok (.getfield 19, 3) := by decide +kernel
theorem dX7_canBeGiven_10 : decode cX7_canBeGiven 10 = .ok (.iload_n 1, 1) := by decide +kernel
theorem dX7_canBeGiven_11 : decode cX7_canBeGiven 11 = .ok (.iaload, 1) := by decide +kernel
theorem dX7_canBeGiven_12 : decode cX7_canBeGiven 12 = .ok (.ifCond .le 52, 3) := by decide +kernel
theorem dX7_canBeGiven_15 : decode cX7_canBeGiven 15 = .ok (.iload_n 3, 1) := by decide +kernel
theorem dX7_canBeGiven_16 : decode cX7_canBeGiven 16 = .ok (.aload_n 0, 1) := by decide +kernel
theorem dX7_canBeGiven_17 : decode cX7_canBeGiven 17 = .ok (.getfield 107, 3) := by decide +kernel
theorem dX7_canBeGiven_20 : decode cX7_canBeGiven 20 = .ok (.if_icmp .lt 44, 3) := by decide +kernel
theorem dX7_canBeGiven_23 : decode cX7_canBeGiven 23 = .ok (.aload_n 0, 1) := by decide +kernel
theorem dX7_canBeGiven_24 : decode cX7_canBeGiven 24 = .ok (.getfield 25, 3) := by decide +kernel
theorem dX7_canBeGiven_27 : decode cX7_canBeGiven 27 = .ok (.iload_n 1, 1) := by decide +kernel
theorem dX7_canBeGiven_28 : decode cX7_canBeGiven 28 = .ok (.iaload, 1) := by decide +kernel
theorem dX7_canBeGiven_29 : decode cX7_canBeGiven 29 = .ok (.iconst (-1), 1) := by decide +kernel
theorem dX7_canBeGiven_30 : decode cX7_canBeGiven 30 = .ok (.if_icmp .ne 34, 3) := by decide +kernel
theorem dX7_canBeGiven_33 : decode cX7_canBeGiven 33 = .ok (.aload_n 0, 1) := by decide +kernel
theorem dX7_canBeGiven_34 : decode cX7_canBeGiven 34 = .ok (.getfield 22, 3) := by decide +kernel
theorem dX7_canBeGiven_37 : decode cX7_canBeGiven 37 = .ok (.iload_n 1, 1) := by decide +kernel
theorem dX7_canBeGiven_38 : decode cX7_canBeGiven 38 = .ok (.iaload, 1) := by decide +kernel
theorem dX7_canBeGiven_39 : decode cX7_canBeGiven 39 = .ok (.ifCond .ne 25, 3) := by decide +kernel
theorem dX7_canBeGiven_42 : decode cX7_canBeGiven 42 = .ok (.aload_n 0, 1) := by decide +kernel
theorem dX7_canBeGiven_43 : decode cX7_canBeGiven 43 = .ok (.getfield 65, 3) := by decide +kernel
theorem dX7_canBeGiven_46 : decode cX7_canBeGiven 46 = .ok (.iload_n 2, 1) := by decide +kernel
theorem dX7_canBeGiven_47 : decode cX7_canBeGiven 47 = .ok (.baload, 1) := by decide +kernel
theorem dX7_canBeGiven_48 : decode cX7_canBeGiven 48 = .ok (.ifCond .ne 16, 3) := by decide +kernel
theorem dX7_canBeGiven_51 : decode cX7_canBeGiven 51 = .ok (.aload_n 0, 1) := by decide +kernel
theorem dX7_canBeGiven_52 : decode cX7_canBeGiven 52 = .ok (.iload_n 1, 1) := by decide +kernel
theorem dX7_canBeGiven_53 : decode cX7_canBeGiven 53 = .ok (.iload_n 2, 1) := by decide +kernel
theorem dX7_canBeGiven_54 : decode cX7_canBeGiven 54 = .ok (.invokevirtual 142, 3) := by decide +kernel
theorem dX7_canBeGiven_57 : decode cX7_canBeGiven 57 = .ok (.ifCond .ne 7, 3) := by decide +kernel
theorem dX7_canBeGiven_60 : decode cX7_canBeGiven 60 = .ok (.iconst 1, 1) := by decide +kernel
theorem dX7_canBeGiven_61 : decode cX7_canBeGiven 61 = .ok (.goto 4, 3) := by decide +kernel
theorem dX7_canBeGiven_64 : decode cX7_canBeGiven 64 = .ok (.iconst 0, 1) := by decide +kernel
theorem dX7_canBeGiven_65 : decode cX7_canBeGiven 65 = .ok (.ireturn, 1) := by decide +kernel
theorem dX7_toWrite_0 : decode cX7_toWrite 0 = .ok (.iconst 0, 1) := by decide +kernel
theorem dX7_toWrite_1 : decode cX7_toWrite 1 = .ok (.istore_n 2, 1) := by decide +kernel
theorem dX7_toWrite_2 : decode cX7_toWrite 2 = .ok (.iconst 0, 1) := by decide +kernel
theorem dX7_toWrite_3 : decode cX7_toWrite 3 = .ok (.istore_n 3, 1) := by decide +kernel
theorem dX7_toWrite_4 : decode cX7_toWrite 4 = .ok (.iload_n 3, 1) := by decide +kernel
theorem dX7_toWrite_5 : decode cX7_toWrite 5 = .ok (.aload_n 0, 1) := by decide +kernel
theorem dX7_toWrite_6 : decode cX7_toWrite 6 = .ok (.getfield 78, 3) := by decide +kernel
theorem dX7_toWrite_9 : decode cX7_toWrite 9 = .ok (.if_icmp .ge 37, 3) := by decide +kernel
theorem dX7_toWrite_12 : decode cX7_toWrite 12 = .ok (.iload_n 2, 1) := by decide +kernel
theorem dX7_toWrite_13 : decode cX7_toWrite 13 = .ok (.aload_n 0, 1) := by decide +kernel
theorem dX7_toWrite_14 : decode cX7_toWrite 14 = .ok (.getfield 22, 3) := by decide +kernel
theorem dX7_toWrite_17 : decode cX7_toWrite 17 = .ok (.iload_n 3, 1) := by decide +kernel
theorem dX7_toWrite_18 : decode cX7_toWrite 18 = .ok (.iaload, 1) := by decide +kernel
theorem dX7_toWrite_19 : decode cX7_toWrite 19 = .ok (.iconst 1, 1) := by decide +kernel
theorem dX7_toWrite_20 : decode cX7_toWrite 20 = .ok (.if_icmp .ne 17, 3) := by decide +kernel
theorem dX7_toWrite_23 : decode cX7_toWrite 23 = .ok (.aload_n 0, 1) := by decide +kernel
theorem dX7_toWrite_24 : decode cX7_toWrite 24 = .ok (.getfield 25, 3) := by decide +kernel
theorem dX7_toWrite_27 : decode cX7_toWrite 27 = .ok (.iload_n 3, 1) := by decide +kernel
theorem dX7_toWrite_28 : decode cX7_toWrite 28 = .ok (.iaload, 1) := by decide +kernel
theorem dX7_toWrite_29 : decode cX7_toWrite 29 = .ok (.iload_n 1, 1) := by decide +kernel
theorem dX7_toWrite_30 : decode cX7_toWrite 30 = .ok (.if_icmp .ne 7, 3) := by decide +kernel
theorem dX7_toWrite_33 : decode cX7_toWrite 33 = .ok (.iconst 1, 1) := by decide +kernel
theorem dX7_toWrite_34 : decode cX7_toWrite 34 = .ok (.goto 4, 3) := by decide +kernel
theorem dX7_toWrite_37 : decode cX7_toWrite 37 = .ok (.iconst 0, 1) := by decide +kernel
theorem dX7_toWrite_38 : decode cX7_toWrite 38 = .ok (.iadd, 1) := by decide +kernel
theorem dX7_toWrite_39 : decode cX7_toWrite 39 = .ok (.istore_n 2, 1) := by decide +kernel
theorem dX7_toWrite_40 : decode cX7_toWrite 40 = .ok (.iinc 3 1, 3) := by decide +kernel
theorem dX7_toWrite_43 : decode cX7_toWrite 43 = .ok (.goto (-39), 3) := by decide +kernel
theorem dX7_toWrite_46 : decode cX7_toWrite 46 = .ok (.iload_n 2, 1) := by decide +kernel
theorem dX7_toWrite_47 : decode cX7_toWrite 47 = .ok (.ireturn, 1) := by decide +kernel
theorem dX7_first_0 : decode cX7_first 0 = .ok (.iconst (-1), 1) := by decide +kernel
theorem dX7_first_1 : decode cX7_first 1 = .ok (.istore_n 2, 1) := by decide +kernel
theorem dX7_first_2 : decode cX7_first 2 = .ok (.iconst 0, 1) := by decide +kernel
theorem dX7_first_3 : decode cX7_first 3 = .ok (.istore_n 3, 1) := by decide +kernel
theorem dX7_first_4 : decode cX7_first 4 = .ok (.iload_n 3, 1) := by decide +kernel
theorem dX7_first_5 : decode cX7_first 5 = .ok (.aload_n 0, 1) := by decide +kernel
theorem dX7_first_6 : decode cX7_first 6 = .ok (.getfield 78, 3) := by decide +kernel
theorem dX7_first_9 : decode cX7_first 9 = .ok (.if_icmp .ge 67, 3) := by decide +kernel
theorem dX7_first_12 : decode cX7_first 12 = .ok (.aload_n 0, 1) := by decide +kernel
theorem dX7_first_13 : decode cX7_first 13 = .ok (.getfield 22, 3) := by decide +kernel
theorem dX7_first_16 : decode cX7_first 16 = .ok (.iload_n 3, 1) := by decide +kernel
theorem dX7_first_17 : decode cX7_first 17 = .ok (.iaload, 1) := by decide +kernel
theorem dX7_first_18 : decode cX7_first 18 = .ok (.iconst 1, 1) := by decide +kernel
theorem dX7_first_19 : decode cX7_first 19 = .ok (.if_icmp .ne 17, 3) := by decide +kernel
theorem dX7_first_22 : decode cX7_first 22 = .ok (.aload_n 0, 1) := by decide +kernel
theorem dX7_first_23 : decode cX7_first 23 = .ok (.getfield 25, 3) := by decide +kernel
theorem dX7_first_26 : decode cX7_first 26 = .ok (.iload_n 3, 1) := by decide +kernel
theorem dX7_first_27 : decode cX7_first 27 = .ok (.iaload, 1) := by decide +kernel
theorem dX7_first_28 : decode cX7_first 28 = .ok (.iload_n 1, 1) := by decide +kernel
theorem dX7_first_29 : decode cX7_first 29 = .ok (.if_icmp .ne 7, 3) := by decide +kernel
theorem dX7_first_32 : decode cX7_first 32 = .ok (.iconst 1, 1) := by decide +kernel
theorem dX7_first_33 : decode cX7_first 33 = .ok (.goto 4, 3) := by decide +kernel
theorem dX7_first_36 : decode cX7_first 36 = .ok (.iconst 0, 1) := by decide +kernel
theorem dX7_first_37 : decode cX7_first 37 = .ok (.istore 4, 2) := by decide +kernel
theorem dX7_first_39 : decode cX7_first 39 = .ok (.iload 4, 2) := by decide +kernel
theorem dX7_first_41 : decode cX7_first 41 = .ok (.ifCond .eq 27, 3) := by decide +kernel
theorem dX7_first_44 : decode cX7_first 44 = .ok (.iload_n 2, 1) := by decide +kernel
theorem dX7_first_45 : decode cX7_first 45 = .ok (.iconst (-1), 1) := by decide +kernel
theorem dX7_first_46 : decode cX7_first 46 = .ok (.if_icmp .eq 18, 3) := by decide +kernel
theorem dX7_first_49 : decode cX7_first 49 = .ok (.aload_n 0, 1) := by decide +kernel
theorem dX7_first_50 : decode cX7_first 50 = .ok (.getfield 31, 3) := by decide +kernel
theorem dX7_first_53 : decode cX7_first 53 = .ok (.iload_n 3, 1) := by decide +kernel
theorem dX7_first_54 : decode cX7_first 54 = .ok (.iaload, 1) := by decide +kernel
theorem dX7_first_55 : decode cX7_first 55 = .ok (.aload_n 0, 1) := by decide +kernel
theorem dX7_first_56 : decode cX7_first 56 = .ok (.getfield 31, 3) := by decide +kernel
theorem dX7_first_59 : decode cX7_first 59 = .ok (.iload_n 2, 1) := by decide +kernel
theorem dX7_first_60 : decode cX7_first 60 = .ok (.iaload, 1) := by decide +kernel
theorem dX7_first_61 : decode cX7_first 61 = .ok (.if_icmp .ge 7, 3) := by decide +kernel
theorem dX7_first_64 : decode cX7_first 64 = .ok (.iload_n 3, 1) := by decide +kernel
theorem dX7_first_65 : decode cX7_first 65 = .ok (.goto 4, 3) := by decide +kernel
theorem dX7_first_68 : decode cX7_first 68 = .ok (.iload_n 2, 1) := by decide +kernel
theorem dX7_first_69 : decode cX7_first 69 = .ok (.istore_n 2, 1) := by decide +kernel
theorem dX7_first_70 : decode cX7_first 70 = .ok (.iinc 3 1, 3) := by decide +kernel
theorem dX7_first_73 : decode cX7_first 73 = .ok (.goto (-69), 3) := by decide +kernel
theorem dX7_first_76 : decode cX7_first 76 = .ok (.iload_n 2, 1) := by decide +kernel
theorem dX7_first_77 : decode cX7_first 77 = .ok (.ireturn, 1) := by decide +kernel
theorem dX7_begins_0 : decode cX7_begins 0 = .ok (.aload_n 0, 1) := by decide +kernel
theorem dX7_begins_1 : decode cX7_begins 1 = .ok (.iload_n 1, 1) := by decide +kernel
theorem dX7_begins_2 : decode cX7_begins 2 = .ok (.invokevirtual 145, 3) := by decide +kernel
theorem dX7_begins_5 : decode cX7_begins 5 = .ok (.aload_n 0, 1) := by decide +kernel
theorem dX7_begins_6 : decode cX7_begins 6 = .ok (.getfield 62, 3) := by decide +kernel
theorem dX7_begins_9 : decode cX7_begins 9 = .ok (.iload_n 2, 1) := by decide +kernel
theorem dX7_begins_10 : decode cX7_begins 10 = .ok (.iaload, 1) := by decide +kernel
theorem dX7_begins_11 : decode cX7_begins 11 = .ok (.iadd, 1) := by decide +kernel
theorem dX7_begins_12 : decode cX7_begins 12 = .ok (.iconst 1, 1) := by decide +kernel
theorem dX7_begins_13 : decode cX7_begins 13 = .ok (.isub, 1) := by decide +kernel
theorem dX7_begins_14 : decode cX7_begins 14 = .ok (.aload_n 0, 1) := by decide +kernel
theorem dX7_begins_15 : decode cX7_begins 15 = .ok (.getfield 62, 3) := by decide +kernel
theorem dX7_begins_18 : decode cX7_begins 18 = .ok (.iload_n 2, 1) := by decide +kernel
theorem dX7_begins_19 : decode cX7_begins 19 = .ok (.iaload, 1) := by decide +kernel
theorem dX7_begins_20 : decode cX7_begins 20 = .ok (.idiv, 1) := by decide +kernel
theorem dX7_begins_21 : decode cX7_begins 21 = .ok (.istore_n 3, 1) := by decide +kernel
theorem dX7_begins_22 : decode cX7_begins 22 = .ok (.aload_n 0, 1) := by decide +kernel
theorem dX7_begins_23 : decode cX7_begins 23 = .ok (.getfield 28, 3) := by decide +kernel
theorem dX7_begins_26 : decode cX7_begins 26 = .ok (.iload_n 1, 1) := by decide +kernel
theorem dX7_begins_27 : decode cX7_begins 27 = .ok (.aload_n 0, 1) := by decide +kernel
theorem dX7_begins_28 : decode cX7_begins 28 = .ok (.getfield 148, 3) := by decide +kernel
theorem dX7_begins_31 : decode cX7_begins 31 = .ok (.iload_n 3, 1) := by decide +kernel
theorem dX7_begins_32 : decode cX7_begins 32 = .ok (.iconst 1, 1) := by decide +kernel
theorem dX7_begins_33 : decode cX7_begins 33 = .ok (.if_icmp .ge 7, 3) := by decide +kernel
theorem dX7_begins_36 : decode cX7_begins 36 = .ok (.iconst 1, 1) := by decide +kernel
theorem dX7_begins_37 : decode cX7_begins 37 = .ok (.goto 4, 3) := by decide +kernel
theorem dX7_begins_40 : decode cX7_begins 40 = .ok (.iload_n 3, 1) := by decide +kernel
theorem dX7_begins_41 : decode cX7_begins 41 = .ok (.iadd, 1) := by decide +kernel
theorem dX7_begins_42 : decode cX7_begins 42 = .ok (.iastore, 1) := by decide +kernel
theorem dX7_begins_43 : decode cX7_begins 43 = .ok (.return_, 1) := by decide +kernel
theorem dX7_give_0 : decode cX7_give 0 = .ok (.aload_n 0, 1) := by decide +kernel
theorem dX7_give_1 : decode cX7_give 1 = .ok (.iload_n 1, 1) := by decide +kernel
theorem dX7_give_2 : decode cX7_give 2 = .ok (.invokevirtual 117, 3) := by decide +kernel
theorem dX7_give_5 : decode cX7_give 5 = .ok (.ifCond .eq 15, 3) := by decide +kernel
theorem dX7_give_8 : decode cX7_give 8 = .ok (.aload_n 0, 1) := by decide +kernel
theorem dX7_give_9 : decode cX7_give 9 = .ok (.iload_n 2, 1) := by decide +kernel
theorem dX7_give_10 : decode cX7_give 10 = .ok (.invokevirtual 136, 3) := by decide +kernel
theorem dX7_give_13 : decode cX7_give 13 = .ok (.ifCond .eq 7, 3) := by decide +kernel
theorem dX7_give_16 : decode cX7_give 16 = .ok (.iconst 1, 1) := by decide +kernel
theorem dX7_give_17 : decode cX7_give 17 = .ok (.goto 4, 3) := by decide +kernel
theorem dX7_give_20 : decode cX7_give 20 = .ok (.iconst 0, 1) := by decide +kernel
theorem dX7_give_21 : decode cX7_give 21 = .ok (.istore_n 3, 1) := by decide +kernel
theorem dX7_give_22 : decode cX7_give 22 = .ok (.aload_n 0, 1) := by decide +kernel
theorem dX7_give_23 : decode cX7_give 23 = .ok (.iload_n 3, 1) := by decide +kernel
theorem dX7_give_24 : decode cX7_give 24 = .ok (.ifCond .ne 7, 3) := by decide +kernel
theorem dX7_give_27 : decode cX7_give 27 = .ok (.iconst 1, 1) := by decide +kernel
theorem dX7_give_28 : decode cX7_give 28 = .ok (.goto 17, 3) := by decide +kernel
theorem dX7_give_31 : decode cX7_give 31 = .ok (.aload_n 0, 1) := by decide +kernel
theorem dX7_give_32 : decode cX7_give 32 = .ok (.iload_n 1, 1) := by decide +kernel
theorem dX7_give_33 : decode cX7_give 33 = .ok (.iload_n 2, 1) := by decide +kernel
theorem dX7_give_34 : decode cX7_give 34 = .ok (.invokevirtual 151, 3) := by decide +kernel
theorem dX7_give_37 : decode cX7_give 37 = .ok (.ifCond .eq 7, 3) := by decide +kernel
theorem dX7_give_40 : decode cX7_give 40 = .ok (.iconst 0, 1) := by decide +kernel
theorem dX7_give_41 : decode cX7_give 41 = .ok (.goto 4, 3) := by decide +kernel
theorem dX7_give_44 : decode cX7_give 44 = .ok (.iconst 2, 1) := by decide +kernel
theorem dX7_give_45 : decode cX7_give 45 = .ok (.invokevirtual 103, 3) := by decide +kernel
theorem dX7_give_48 : decode cX7_give 48 = .ok (.ifCond .ne 5, 3) := by decide +kernel
theorem dX7_give_51 : decode cX7_give 51 = .ok (.iconst 0, 1) := by decide +kernel
theorem dX7_give_52 : decode cX7_give 52 = .ok (.ireturn, 1) := by decide +kernel
theorem dX7_give_53 : decode cX7_give 53 = .ok (.aload_n 0, 1) := by decide +kernel
theorem dX7_give_54 : decode cX7_give 54 = .ok (.iload_n 2, 1) := by decide +kernel
theorem dX7_give_55 : decode cX7_give 55 = .ok (.invokevirtual 154, 3) := by decide +kernel
theorem dX7_give_58 : decode cX7_give 58 = .ok (.istore 4, 2) := by decide +kernel
theorem dX7_give_60 : decode cX7_give 60 = .ok (.aload_n 0, 1) := by decide +kernel
theorem dX7_give_61 : decode cX7_give 61 = .ok (.getfield 22, 3) := by decide +kernel
theorem dX7_give_64 : decode cX7_give 64 = .ok (.iload_n 1, 1) := by decide +kernel
theorem dX7_give_65 : decode cX7_give 65 = .ok (.iconst 1, 1) := by decide +kernel
theorem dX7_give_66 : decode cX7_give 66 = .ok (.iastore, 1) := by decide +kernel
theorem dX7_give_67 : decode cX7_give 67 = .ok (.aload_n 0, 1) := by decide +kernel
theorem dX7_give_68 : decode cX7_give 68 = .ok (.getfield 25, 3) := by decide +kernel
theorem dX7_give_71 : decode cX7_give 71 = .ok (.iload_n 1, 1) := by decide +kernel
theorem dX7_give_72 : decode cX7_give 72 = .ok (.iload_n 2, 1) := by decide +kernel
theorem dX7_give_73 : decode cX7_give 73 = .ok (.iastore, 1) := by decide +kernel
theorem dX7_give_74 : decode cX7_give 74 = .ok (.aload_n 0, 1) := by decide +kernel
theorem dX7_give_75 : decode cX7_give 75 = .ok (.getfield 31, 3) := by decide +kernel
theorem dX7_give_78 : decode cX7_give 78 = .ok (.iload_n 1, 1) := by decide +kernel
theorem dX7_give_79 : decode cX7_give 79 = .ok (.aload_n 0, 1) := by decide +kernel
theorem dX7_give_80 : decode cX7_give 80 = .ok (.getfield 157, 3) := by decide +kernel
theorem dX7_give_83 : decode cX7_give 83 = .ok (.iastore, 1) := by decide +kernel
theorem dX7_give_84 : decode cX7_give 84 = .ok (.aload_n 0, 1) := by decide +kernel
theorem dX7_give_85 : decode cX7_give 85 = .ok (.dup, 1) := by decide +kernel
theorem dX7_give_86 : decode cX7_give 86 = .ok (.getfield 157, 3) := by decide +kernel
theorem dX7_give_89 : decode cX7_give 89 = .ok (.iconst 1, 1) := by decide +kernel
theorem dX7_give_90 : decode cX7_give 90 = .ok (.iadd, 1) := by decide +kernel
theorem dX7_give_91 : decode cX7_give 91 = .ok (.putfield 157, 3) := by decide +kernel
theorem dX7_give_94 : decode cX7_give 94 = .ok (.iload 4, 2) := by decide +kernel
theorem dX7_give_96 : decode cX7_give 96 = .ok (.ifCond .ne 9, 3) := by decide +kernel
theorem dX7_give_99 : decode cX7_give 99 = .ok (.aload_n 0, 1) := by decide +kernel
theorem dX7_give_100 : decode cX7_give 100 = .ok (.iload_n 1, 1) := by decide +kernel
theorem dX7_give_101 : decode cX7_give 101 = .ok (.iload_n 2, 1) := by decide +kernel
theorem dX7_give_102 : decode cX7_give 102 = .ok (.invokevirtual 160, 3) := by decide +kernel
theorem dX7_give_105 : decode cX7_give 105 = .ok (.iload 4, 2) := by decide +kernel
theorem dX7_give_107 : decode cX7_give 107 = .ok (.iconst 1, 1) := by decide +kernel
theorem dX7_give_108 : decode cX7_give 108 = .ok (.iadd, 1) := by decide +kernel
theorem dX7_give_109 : decode cX7_give 109 = .ok (.ireturn, 1) := by decide +kernel
theorem dX7_die_0 : decode cX7_die 0 = .ok (.aload_n 0, 1) := by decide +kernel
theorem dX7_die_1 : decode cX7_die 1 = .ok (.iload_n 1, 1) := by decide +kernel
theorem dX7_die_2 : decode cX7_die 2 = .ok (.invokevirtual 136, 3) := by decide +kernel
theorem dX7_die_5 : decode cX7_die 5 = .ok (.istore_n 2, 1) := by decide +kernel
theorem dX7_die_6 : decode cX7_die 6 = .ok (.aload_n 0, 1) := by decide +kernel
theorem dX7_die_7 : decode cX7_die 7 = .ok (.iload_n 2, 1) := by decide +kernel
theorem dX7_die_8 : decode cX7_die 8 = .ok (.ifCond .ne 7, 3) := by decide +kernel
theorem dX7_die_11 : decode cX7_die 11 = .ok (.iconst 1, 1) := by decide +kernel
theorem dX7_die_12 : decode cX7_die 12 = .ok (.goto 17, 3) := by decide +kernel
theorem dX7_die_15 : decode cX7_die 15 = .ok (.aload_n 0, 1) := by decide +kernel
theorem dX7_die_16 : decode cX7_die 16 = .ok (.getfield 65, 3) := by decide +kernel
theorem dX7_die_19 : decode cX7_die 19 = .ok (.iload_n 1, 1) := by decide +kernel
theorem dX7_die_20 : decode cX7_die 20 = .ok (.baload, 1) := by decide +kernel
theorem dX7_die_21 : decode cX7_die 21 = .ok (.ifCond .eq 7, 3) := by decide +kernel
theorem dX7_die_24 : decode cX7_die 24 = .ok (.iconst 2, 1) := by decide +kernel
theorem dX7_die_25 : decode cX7_die 25 = .ok (.goto 4, 3) := by decide +kernel
theorem dX7_die_28 : decode cX7_die 28 = .ok (.iconst 0, 1) := by decide +kernel
theorem dX7_die_29 : decode cX7_die 29 = .ok (.invokevirtual 103, 3) := by decide +kernel
theorem dX7_die_32 : decode cX7_die 32 = .ok (.ifCond .ne 5, 3) := by decide +kernel
theorem dX7_die_35 : decode cX7_die 35 = .ok (.iconst 0, 1) := by decide +kernel
theorem dX7_die_36 : decode cX7_die 36 = .ok (.ireturn, 1) := by decide +kernel
theorem dX7_die_37 : decode cX7_die 37 = .ok (.iconst 0, 1) := by decide +kernel
theorem dX7_die_38 : decode cX7_die 38 = .ok (.istore_n 3, 1) := by decide +kernel
theorem dX7_die_39 : decode cX7_die 39 = .ok (.aload_n 0, 1) := by decide +kernel
theorem dX7_die_40 : decode cX7_die 40 = .ok (.getfield 65, 3) := by decide +kernel
theorem dX7_die_43 : decode cX7_die 43 = .ok (.iload_n 1, 1) := by decide +kernel
theorem dX7_die_44 : decode cX7_die 44 = .ok (.iconst 1, 1) := by decide +kernel
theorem dX7_die_45 : decode cX7_die 45 = .ok (.bastore, 1) := by decide +kernel
theorem dX7_die_46 : decode cX7_die 46 = .ok (.iconst 0, 1) := by decide +kernel
theorem dX7_die_47 : decode cX7_die 47 = .ok (.istore 4, 2) := by decide +kernel
theorem dX7_die_49 : decode cX7_die 49 = .ok (.iload 4, 2) := by decide +kernel
theorem dX7_die_51 : decode cX7_die 51 = .ok (.aload_n 0, 1) := by decide +kernel
theorem dX7_die_52 : decode cX7_die 52 = .ok (.getfield 78, 3) := by decide +kernel
theorem dX7_die_55 : decode cX7_die 55 = .ok (.if_icmp .ge 58, 3) := by decide +kernel
theorem dX7_die_58 : decode cX7_die 58 = .ok (.aload_n 0, 1) := by decide +kernel
theorem dX7_die_59 : decode cX7_die 59 = .ok (.getfield 22, 3) := by decide +kernel
theorem dX7_die_62 : decode cX7_die 62 = .ok (.iload 4, 2) := by decide +kernel
theorem dX7_die_64 : decode cX7_die 64 = .ok (.iaload, 1) := by decide +kernel
theorem dX7_die_65 : decode cX7_die 65 = .ok (.iconst 1, 1) := by decide +kernel
theorem dX7_die_66 : decode cX7_die 66 = .ok (.if_icmp .ne 41, 3) := by decide +kernel
theorem dX7_die_69 : decode cX7_die 69 = .ok (.aload_n 0, 1) := by decide +kernel
theorem dX7_die_70 : decode cX7_die 70 = .ok (.getfield 25, 3) := by decide +kernel
theorem dX7_die_73 : decode cX7_die 73 = .ok (.iload 4, 2) := by decide +kernel
theorem dX7_die_75 : decode cX7_die 75 = .ok (.iaload, 1) := by decide +kernel
theorem dX7_die_76 : decode cX7_die 76 = .ok (.iload_n 1, 1) := by decide +kernel
theorem dX7_die_77 : decode cX7_die 77 = .ok (.if_icmp .ne 30, 3) := by decide +kernel
theorem dX7_die_80 : decode cX7_die 80 = .ok (.aload_n 0, 1) := by decide +kernel
theorem dX7_die_81 : decode cX7_die 81 = .ok (.getfield 22, 3) := by decide +kernel
theorem dX7_die_84 : decode cX7_die 84 = .ok (.iload 4, 2) := by decide +kernel
theorem dX7_die_86 : decode cX7_die 86 = .ok (.iconst 0, 1) := by decide +kernel
theorem dX7_die_87 : decode cX7_die 87 = .ok (.iastore, 1) := by decide +kernel
theorem dX7_die_88 : decode cX7_die 88 = .ok (.aload_n 0, 1) := by decide +kernel
theorem dX7_die_89 : decode cX7_die 89 = .ok (.getfield 25, 3) := by decide +kernel
theorem dX7_die_92 : decode cX7_die 92 = .ok (.iload 4, 2) := by decide +kernel
theorem dX7_die_94 : decode cX7_die 94 = .ok (.iconst (-1), 1) := by decide +kernel
theorem dX7_die_95 : decode cX7_die 95 = .ok (.iastore, 1) := by decide +kernel
theorem dX7_die_96 : decode cX7_die 96 = .ok (.aload_n 0, 1) := by decide +kernel
theorem dX7_die_97 : decode cX7_die 97 = .ok (.getfield 28, 3) := by decide +kernel
theorem dX7_die_100 : decode cX7_die 100 = .ok (.iload 4, 2) := by decide +kernel
theorem dX7_die_102 : decode cX7_die 102 = .ok (.iconst (-1), 1) := by decide +kernel
theorem dX7_die_103 : decode cX7_die 103 = .ok (.iastore, 1) := by decide +kernel
theorem dX7_die_104 : decode cX7_die 104 = .ok (.iinc 3 1, 3) := by decide +kernel
theorem dX7_die_107 : decode cX7_die 107 = .ok (.iinc 4 1, 3) := by decide +kernel
theorem dX7_die_110 : decode cX7_die 110 = .ok (.goto (-61), 3) := by decide +kernel
theorem dX7_die_113 : decode cX7_die 113 = .ok (.iload_n 3, 1) := by decide +kernel
theorem dX7_die_114 : decode cX7_die 114 = .ok (.ireturn, 1) := by decide +kernel
theorem dX7_pass_0 : decode cX7_pass 0 = .ok (.aload_n 0, 1) := by decide +kernel
theorem dX7_pass_1 : decode cX7_pass 1 = .ok (.iload_n 1, 1) := by decide +kernel
theorem dX7_pass_2 : decode cX7_pass 2 = .ok (.iconst 1, 1) := by decide +kernel
theorem dX7_pass_3 : decode cX7_pass 3 = .ok (.bipush 50, 2) := by decide +kernel
theorem dX7_pass_5 : decode cX7_pass 5 = .ok (.invokestatic 81, 3) := by decide +kernel
theorem dX7_pass_8 : decode cX7_pass 8 = .ok (.ifCond .eq 7, 3) := by decide +kernel
theorem dX7_pass_11 : decode cX7_pass 11 = .ok (.iconst 0, 1) := by decide +kernel
theorem dX7_pass_12 : decode cX7_pass 12 = .ok (.goto 4, 3) := by decide +kernel
theorem dX7_pass_15 : decode cX7_pass 15 = .ok (.iconst 1, 1) := by decide +kernel
theorem dX7_pass_16 : decode cX7_pass 16 = .ok (.invokevirtual 103, 3) := by decide +kernel
theorem dX7_pass_19 : decode cX7_pass 19 = .ok (.ifCond .ne 5, 3) := by decide +kernel
theorem dX7_pass_22 : decode cX7_pass 22 = .ok (.iconst 0, 1) := by decide +kernel
theorem dX7_pass_23 : decode cX7_pass 23 = .ok (.ireturn, 1) := by decide +kernel
theorem dX7_pass_24 : decode cX7_pass 24 = .ok (.iconst 0, 1) := by decide +kernel
theorem dX7_pass_25 : decode cX7_pass 25 = .ok (.istore_n 2, 1) := by decide +kernel
theorem dX7_pass_26 : decode cX7_pass 26 = .ok (.iconst 0, 1) := by decide +kernel
theorem dX7_pass_27 : decode cX7_pass 27 = .ok (.istore_n 3, 1) := by decide +kernel
theorem dX7_pass_28 : decode cX7_pass 28 = .ok (.iload_n 3, 1) := by decide +kernel
theorem dX7_pass_29 : decode cX7_pass 29 = .ok (.iload_n 1, 1) := by decide +kernel
theorem dX7_pass_30 : decode cX7_pass 30 = .ok (.if_icmp .ge 98, 3) := by decide +kernel
theorem dX7_pass_33 : decode cX7_pass 33 = .ok (.aload_n 0, 1) := by decide +kernel
theorem dX7_pass_34 : decode cX7_pass 34 = .ok (.dup, 1) := by decide +kernel
theorem dX7_pass_35 : decode cX7_pass 35 = .ok (.getfield 148, 3) := by decide +kernel
theorem dX7_pass_38 : decode cX7_pass 38 = .ok (.iconst 1, 1) := by decide +kernel
theorem dX7_pass_39 : decode cX7_pass 39 = .ok (.iadd, 1) := by decide +kernel
theorem dX7_pass_40 : decode cX7_pass 40 = .ok (.putfield 148, 3) := by decide +kernel
theorem dX7_pass_43 : decode cX7_pass 43 = .ok (.iconst 0, 1) := by decide +kernel
theorem dX7_pass_44 : decode cX7_pass 44 = .ok (.istore 4, 2) := by decide +kernel
theorem dX7_pass_46 : decode cX7_pass 46 = .ok (.iload 4, 2) := by decide +kernel
theorem dX7_pass_48 : decode cX7_pass 48 = .ok (.aload_n 0, 1) := by decide +kernel
theorem dX7_pass_49 : decode cX7_pass 49 = .ok (.getfield 85, 3) := by decide +kernel
theorem dX7_pass_52 : decode cX7_pass 52 = .ok (.if_icmp .ge 70, 3) := by decide +kernel
theorem dX7_pass_55 : decode cX7_pass 55 = .ok (.aload_n 0, 1) := by decide +kernel
theorem dX7_pass_56 : decode cX7_pass 56 = .ok (.iload 4, 2) := by decide +kernel
theorem dX7_pass_58 : decode cX7_pass 58 = .ok (.invokevirtual 164, 3) := by decide +kernel
theorem dX7_pass_61 : decode cX7_pass 61 = .ok (.istore 5, 2) := by decide +kernel
theorem dX7_pass_63 : decode cX7_pass 63 = .ok (.iload 5, 2) := by decide +kernel
theorem dX7_pass_65 : decode cX7_pass 65 = .ok (.iconst (-1), 1) := by decide +kernel
theorem dX7_pass_66 : decode cX7_pass 66 = .ok (.if_icmp .eq 50, 3) := by decide +kernel
theorem dX7_pass_69 : decode cX7_pass 69 = .ok (.aload_n 0, 1) := by decide +kernel
theorem dX7_pass_70 : decode cX7_pass 70 = .ok (.getfield 28, 3) := by decide +kernel
theorem dX7_pass_73 : decode cX7_pass 73 = .ok (.iload 5, 2) := by decide +kernel
theorem dX7_pass_75 : decode cX7_pass 75 = .ok (.iaload, 1) := by decide +kernel
theorem dX7_pass_76 : decode cX7_pass 76 = .ok (.aload_n 0, 1) := by decide +kernel
theorem dX7_pass_77 : decode cX7_pass 77 = .ok (.getfield 148, 3) := by decide +kernel
theorem dX7_pass_80 : decode cX7_pass 80 = .ok (.if_icmp .ne 36, 3) := by decide +kernel
theorem dX7_pass_83 : decode cX7_pass 83 = .ok (.aload_n 0, 1) := by decide +kernel
theorem dX7_pass_84 : decode cX7_pass 84 = .ok (.getfield 22, 3) := by decide +kernel
theorem dX7_pass_87 : decode cX7_pass 87 = .ok (.iload 5, 2) := by decide +kernel
theorem dX7_pass_89 : decode cX7_pass 89 = .ok (.iconst 2, 1) := by decide +kernel
theorem dX7_pass_90 : decode cX7_pass 90 = .ok (.iastore, 1) := by decide +kernel
theorem dX7_pass_91 : decode cX7_pass 91 = .ok (.iinc 2 1, 3) := by decide +kernel
theorem dX7_pass_94 : decode cX7_pass 94 = .ok (.aload_n 0, 1) := by decide +kernel
theorem dX7_pass_95 : decode cX7_pass 95 = .ok (.iload 4, 2) := by decide +kernel
theorem dX7_pass_97 : decode cX7_pass 97 = .ok (.invokevirtual 164, 3) := by decide +kernel
theorem dX7_pass_100 : decode cX7_pass 100 = .ok (.istore 6, 2) := by decide +kernel
theorem dX7_pass_102 : decode cX7_pass 102 = .ok (.iload 6, 2) := by decide +kernel
theorem dX7_pass_104 : decode cX7_pass 104 = .ok (.iconst (-1), 1) := by decide +kernel
theorem dX7_pass_105 : decode cX7_pass 105 = .ok (.if_icmp .eq 11, 3) := by decide +kernel
theorem dX7_pass_108 : decode cX7_pass 108 = .ok (.aload_n 0, 1) := by decide +kernel
theorem dX7_pass_109 : decode cX7_pass 109 = .ok (.iload 6, 2) := by decide +kernel
theorem dX7_pass_111 : decode cX7_pass 111 = .ok (.iload 4, 2) := by decide +kernel
theorem dX7_pass_113 : decode cX7_pass 113 = .ok (.invokevirtual 160, 3) := by decide +kernel
theorem dX7_pass_116 : decode cX7_pass 116 = .ok (.iinc 4 1, 3) := by decide +kernel
theorem dX7_pass_119 : decode cX7_pass 119 = .ok (.goto (-73), 3) := by decide +kernel
theorem dX7_pass_122 : decode cX7_pass 122 = .ok (.iinc 3 1, 3) := by decide +kernel
theorem dX7_pass_125 : decode cX7_pass 125 = .ok (.goto (-97), 3) := by decide +kernel
theorem dX7_pass_128 : decode cX7_pass 128 = .ok (.iload_n 2, 1) := by decide +kernel
theorem dX7_pass_129 : decode cX7_pass 129 = .ok (.ireturn, 1) := by decide +kernel
theorem dX7_isPrinted_0 : decode cX7_isPrinted 0 = .ok (.iconst 0, 1) := by decide +kernel
theorem dX7_isPrinted_1 : decode cX7_isPrinted 1 = .ok (.istore_n 2, 1) := by decide +kernel
theorem dX7_isPrinted_2 : decode cX7_isPrinted 2 = .ok (.iconst 0, 1) := by decide +kernel
theorem dX7_isPrinted_3 : decode cX7_isPrinted 3 = .ok (.istore_n 3, 1) := by decide +kernel
theorem dX7_isPrinted_4 : decode cX7_isPrinted 4 = .ok (.iload_n 3, 1) := by decide +kernel
theorem dX7_isPrinted_5 : decode cX7_isPrinted 5 = .ok (.aload_n 0, 1) := by decide +kernel
theorem dX7_isPrinted_6 : decode cX7_isPrinted 6 = .ok (.getfield 78, 3) := by decide +kernel
theorem dX7_isPrinted_9 : decode cX7_isPrinted 9 = .ok (.if_icmp .ge 38, 3) := by decide +kernel
theorem dX7_isPrinted_12 : decode cX7_isPrinted 12 = .ok (.iload_n 2, 1) := by decide +kernel
theorem dX7_isPrinted_13 : decode cX7_isPrinted 13 = .ok (.ifCond .ne 22, 3) := by decide +kernel
theorem dX7_isPrinted_16 : decode cX7_isPrinted 16 = .ok (.aload_n 0, 1) := by decide +kernel
theorem dX7_isPrinted_17 : decode cX7_isPrinted 17 = .ok (.getfield 22, 3) := by decide +kernel
theorem dX7_isPrinted_20 : decode cX7_isPrinted 20 = .ok (.iload_n 3, 1) := by decide +kernel
theorem dX7_isPrinted_21 : decode cX7_isPrinted 21 = .ok (.iaload, 1) := by decide +kernel
theorem dX7_isPrinted_22 : decode cX7_isPrinted 22 = .ok (.iconst 3, 1) := by decide +kernel
theorem dX7_isPrinted_23 : decode cX7_isPrinted 23 = .ok (.if_icmp .ne 16, 3) := by decide +kernel
theorem dX7_isPrinted_26 : decode cX7_isPrinted 26 = .ok (.aload_n 0, 1) := by decide +kernel
theorem dX7_isPrinted_27 : decode cX7_isPrinted 27 = .ok (.iload_n 3, 1) := by decide +kernel
theorem dX7_isPrinted_28 : decode cX7_isPrinted 28 = .ok (.iload_n 1, 1) := by decide +kernel
theorem dX7_isPrinted_29 : decode cX7_isPrinted 29 = .ok (.invokevirtual 126, 3) := by decide +kernel
theorem dX7_isPrinted_32 : decode cX7_isPrinted 32 = .ok (.ifCond .ne 7, 3) := by decide +kernel
theorem dX7_isPrinted_35 : decode cX7_isPrinted 35 = .ok (.iconst 1, 1) := by decide +kernel
theorem dX7_isPrinted_36 : decode cX7_isPrinted 36 = .ok (.goto 4, 3) := by decide +kernel
theorem dX7_isPrinted_39 : decode cX7_isPrinted 39 = .ok (.iconst 0, 1) := by decide +kernel
theorem dX7_isPrinted_40 : decode cX7_isPrinted 40 = .ok (.istore_n 2, 1) := by decide +kernel
theorem dX7_isPrinted_41 : decode cX7_isPrinted 41 = .ok (.iinc 3 1, 3) := by decide +kernel
theorem dX7_isPrinted_44 : decode cX7_isPrinted 44 = .ok (.goto (-40), 3) := by decide +kernel
theorem dX7_isPrinted_47 : decode cX7_isPrinted 47 = .ok (.iload_n 2, 1) := by decide +kernel
theorem dX7_isPrinted_48 : decode cX7_isPrinted 48 = .ok (.ireturn, 1) := by decide +kernel
theorem dX7_isPromise_0 : decode cX7_isPromise 0 = .ok (.aload_n 0, 1) := by decide +kernel
theorem dX7_isPromise_1 : decode cX7_isPromise 1 = .ok (.iload_n 1, 1) := by decide +kernel
theorem dX7_isPromise_2 : decode cX7_isPromise 2 = .ok (.invokevirtual 129, 3) := by decide +kernel
theorem dX7_isPromise_5 : decode cX7_isPromise 5 = .ok (.istore_n 2, 1) := by decide +kernel
theorem dX7_isPromise_6 : decode cX7_isPromise 6 = .ok (.iload_n 2, 1) := by decide +kernel
theorem dX7_isPromise_7 : decode cX7_isPromise 7 = .ok (.iconst (-1), 1) := by decide +kernel
theorem dX7_isPromise_8 : decode cX7_isPromise 8 = .ok (.if_icmp .eq 11, 3) := by decide +kernel
theorem dX7_isPromise_11 : decode cX7_isPromise 11 = .ok (.iload_n 2, 1) := by decide +kernel
theorem dX7_isPromise_12 : decode cX7_isPromise 12 = .ok (.aload_n 0, 1) := by decide +kernel
theorem dX7_isPromise_13 : decode cX7_isPromise 13 = .ok (.getfield 107, 3) := by decide +kernel
theorem dX7_isPromise_16 : decode cX7_isPromise 16 = .ok (.if_icmp .lt 7, 3) := by decide +kernel
theorem dX7_isPromise_19 : decode cX7_isPromise 19 = .ok (.iconst 1, 1) := by decide +kernel
theorem dX7_isPromise_20 : decode cX7_isPromise 20 = .ok (.goto 4, 3) := by decide +kernel
theorem dX7_isPromise_23 : decode cX7_isPromise 23 = .ok (.iconst 0, 1) := by decide +kernel
theorem dX7_isPromise_24 : decode cX7_isPromise 24 = .ok (.ireturn, 1) := by decide +kernel
theorem dX7_prints_0 : decode cX7_prints 0 = .ok (.iconst 0, 1) := by decide +kernel
theorem dX7_prints_1 : decode cX7_prints 1 = .ok (.istore_n 3, 1) := by decide +kernel
theorem dX7_prints_2 : decode cX7_prints 2 = .ok (.iconst 0, 1) := by decide +kernel
theorem dX7_prints_3 : decode cX7_prints 3 = .ok (.istore 4, 2) := by decide +kernel
theorem dX7_prints_5 : decode cX7_prints 5 = .ok (.iconst 0, 1) := by decide +kernel
theorem dX7_prints_6 : decode cX7_prints 6 = .ok (.istore 5, 2) := by decide +kernel
theorem dX7_prints_8 : decode cX7_prints 8 = .ok (.iload 5, 2) := by decide +kernel
theorem dX7_prints_10 : decode cX7_prints 10 = .ok (.aload_n 0, 1) := by decide +kernel
theorem dX7_prints_11 : decode cX7_prints 11 = .ok (.getfield 78, 3) := by decide +kernel
theorem dX7_prints_14 : decode cX7_prints 14 = .ok (.if_icmp .ge 156, 3) := by decide +kernel
theorem dX7_prints_17 : decode cX7_prints 17 = .ok (.aload_n 0, 1) := by decide +kernel
theorem dX7_prints_18 : decode cX7_prints 18 = .ok (.iload 5, 2) := by decide +kernel
theorem dX7_prints_20 : decode cX7_prints 20 = .ok (.invokevirtual 129, 3) := by decide +kernel
theorem dX7_prints_23 : decode cX7_prints 23 = .ok (.iload_n 1, 1) := by decide +kernel
theorem dX7_prints_24 : decode cX7_prints 24 = .ok (.iload_n 2, 1) := by decide +kernel
theorem dX7_prints_25 : decode cX7_prints 25 = .ok (.invokestatic 81, 3) := by decide +kernel
theorem dX7_prints_28 : decode cX7_prints 28 = .ok (.ifCond .eq 38, 3) := by decide +kernel
theorem dX7_prints_31 : decode cX7_prints 31 = .ok (.aload_n 0, 1) := by decide +kernel
theorem dX7_prints_32 : decode cX7_prints 32 = .ok (.getfield 22, 3) := by decide +kernel
theorem dX7_prints_35 : decode cX7_prints 35 = .ok (.iload 5, 2) := by decide +kernel
theorem dX7_prints_37 : decode cX7_prints 37 = .ok (.iaload, 1) := by decide +kernel
theorem dX7_prints_38 : decode cX7_prints 38 = .ok (.iconst 2, 1) := by decide +kernel
theorem dX7_prints_39 : decode cX7_prints 39 = .ok (.if_icmp .eq 23, 3) := by decide +kernel
theorem dX7_prints_42 : decode cX7_prints 42 = .ok (.aload_n 0, 1) := by decide +kernel
theorem dX7_prints_43 : decode cX7_prints 43 = .ok (.getfield 19, 3) := by decide +kernel
theorem dX7_prints_46 : decode cX7_prints 46 = .ok (.iload 5, 2) := by decide +kernel
theorem dX7_prints_48 : decode cX7_prints 48 = .ok (.iaload, 1) := by decide +kernel
theorem dX7_prints_49 : decode cX7_prints 49 = .ok (.ifCond .ne 17, 3) := by decide +kernel
theorem dX7_prints_52 : decode cX7_prints 52 = .ok (.aload_n 0, 1) := by decide +kernel
theorem dX7_prints_53 : decode cX7_prints 53 = .ok (.getfield 22, 3) := by decide +kernel
theorem dX7_prints_56 : decode cX7_prints 56 = .ok (.iload 5, 2) := by decide +kernel
theorem dX7_prints_58 : decode cX7_prints 58 = .ok (.iaload, 1) := by decide +kernel
theorem dX7_prints_59 : decode cX7_prints 59 = .ok (.ifCond .ne 7, 3) := by decide +kernel
theorem dX7_prints_62 : decode cX7_prints 62 = .ok (.iconst 1, 1) := by decide +kernel
theorem dX7_prints_63 : decode cX7_prints 63 = .ok (.goto 4, 3) := by decide +kernel
theorem dX7_prints_66 : decode cX7_prints 66 = .ok (.iconst 0, 1) := by decide +kernel
theorem dX7_prints_67 : decode cX7_prints 67 = .ok (.istore 6, 2) := by decide +kernel
theorem dX7_prints_69 : decode cX7_prints 69 = .ok (.iload 4, 2) := by decide +kernel
theorem dX7_prints_71 : decode cX7_prints 71 = .ok (.iload 6, 2) := by decide +kernel
theorem dX7_prints_73 : decode cX7_prints 73 = .ok (.ifCond .eq 10, 3) := by decide +kernel
theorem dX7_prints_76 : decode cX7_prints 76 = .ok (.iconst 1, 1) := by decide +kernel
theorem dX7_prints_77 : decode cX7_prints 77 = .ok (.iload 5, 2) := by decide +kernel
theorem dX7_prints_79 : decode cX7_prints 79 = .ok (.ishl, 1) := by decide +kernel
theorem dX7_prints_80 : decode cX7_prints 80 = .ok (.goto 4, 3) := by decide +kernel
theorem dX7_prints_83 : decode cX7_prints 83 = .ok (.iconst 0, 1) := by decide +kernel
theorem dX7_prints_84 : decode cX7_prints 84 = .ok (.ior, 1) := by decide +kernel
theorem dX7_prints_85 : decode cX7_prints 85 = .ok (.istore 4, 2) := by decide +kernel
theorem dX7_prints_87 : decode cX7_prints 87 = .ok (.iload_n 3, 1) := by decide +kernel
theorem dX7_prints_88 : decode cX7_prints 88 = .ok (.iload 6, 2) := by decide +kernel
theorem dX7_prints_90 : decode cX7_prints 90 = .ok (.ifCond .eq 7, 3) := by decide +kernel
theorem dX7_prints_93 : decode cX7_prints 93 = .ok (.iconst 1, 1) := by decide +kernel
theorem dX7_prints_94 : decode cX7_prints 94 = .ok (.goto 4, 3) := by decide +kernel
theorem dX7_prints_97 : decode cX7_prints 97 = .ok (.iconst 0, 1) := by decide +kernel
theorem dX7_prints_98 : decode cX7_prints 98 = .ok (.iadd, 1) := by decide +kernel
theorem dX7_prints_99 : decode cX7_prints 99 = .ok (.istore_n 3, 1) := by decide +kernel
theorem dX7_prints_100 : decode cX7_prints 100 = .ok (.aload_n 0, 1) := by decide +kernel
theorem dX7_prints_101 : decode cX7_prints 101 = .ok (.getfield 22, 3) := by decide +kernel
theorem dX7_prints_104 : decode cX7_prints 104 = .ok (.iload 5, 2) := by decide +kernel
theorem dX7_prints_106 : decode cX7_prints 106 = .ok (.iload 6, 2) := by decide +kernel
theorem dX7_prints_108 : decode cX7_prints 108 = .ok (.ifCond .eq 7, 3) := by decide +kernel
theorem dX7_prints_111 : decode cX7_prints 111 = .ok (.iconst 3, 1) := by decide +kernel
theorem dX7_prints_112 : decode cX7_prints 112 = .ok (.goto 10, 3) := by decide +kernel
theorem dX7_prints_115 : decode cX7_prints 115 = .ok (.aload_n 0, 1) := by decide +kernel
theorem dX7_prints_116 : decode cX7_prints 116 = .ok (.getfield 22, 3) := by decide +kernel
theorem dX7_prints_119 : decode cX7_prints 119 = .ok (.iload 5, 2) := by decide +kernel
theorem dX7_prints_121 : decode cX7_prints 121 = .ok (.iaload, 1) := by decide +kernel
theorem dX7_prints_122 : decode cX7_prints 122 = .ok (.iastore, 1) := by decide +kernel
theorem dX7_prints_123 : decode cX7_prints 123 = .ok (.iconst 0, 1) := by decide +kernel
theorem dX7_prints_124 : decode cX7_prints 124 = .ok (.istore 7, 2) := by decide +kernel
theorem dX7_prints_126 : decode cX7_prints 126 = .ok (.iload 7, 2) := by decide +kernel
theorem dX7_prints_128 : decode cX7_prints 128 = .ok (.bipush 8, 2) := by decide +kernel
theorem dX7_prints_130 : decode cX7_prints 130 = .ok (.if_icmp .ge 34, 3) := by decide +kernel
theorem dX7_prints_133 : decode cX7_prints 133 = .ok (.iload 6, 2) := by decide +kernel
theorem dX7_prints_135 : decode cX7_prints 135 = .ok (.ifCond .eq 29, 3) := by decide +kernel
theorem dX7_prints_138 : decode cX7_prints 138 = .ok (.aload_n 0, 1) := by decide +kernel
theorem dX7_prints_139 : decode cX7_prints 139 = .ok (.getfield 47, 3) := by decide +kernel
theorem dX7_prints_142 : decode cX7_prints 142 = .ok (.bipush 8, 2) := by decide +kernel
theorem dX7_prints_144 : decode cX7_prints 144 = .ok (.iload 5, 2) := by decide +kernel
theorem dX7_prints_146 : decode cX7_prints 146 = .ok (.imul, 1) := by decide +kernel
theorem dX7_prints_147 : decode cX7_prints 147 = .ok (.iload 7, 2) := by decide +kernel
theorem dX7_prints_149 : decode cX7_prints 149 = .ok (.iadd, 1) := by decide +kernel
theorem dX7_prints_150 : decode cX7_prints 150 = .ok (.aload_n 0, 1) := by decide +kernel
theorem dX7_prints_151 : decode cX7_prints 151 = .ok (.getfield 53, 3) := by decide +kernel
theorem dX7_prints_154 : decode cX7_prints 154 = .ok (.iload 7, 2) := by decide +kernel
theorem dX7_prints_156 : decode cX7_prints 156 = .ok (.iaload, 1) := by decide +kernel
theorem dX7_prints_157 : decode cX7_prints 157 = .ok (.iastore, 1) := by decide +kernel
theorem dX7_prints_158 : decode cX7_prints 158 = .ok (.iinc 7 1, 3) := by decide +kernel
theorem dX7_prints_161 : decode cX7_prints 161 = .ok (.goto (-35), 3) := by decide +kernel
theorem dX7_prints_164 : decode cX7_prints 164 = .ok (.iinc 5 1, 3) := by decide +kernel
theorem dX7_prints_167 : decode cX7_prints 167 = .ok (.goto (-159), 3) := by decide +kernel
theorem dX7_prints_170 : decode cX7_prints 170 = .ok (.iconst 0, 1) := by decide +kernel
theorem dX7_prints_171 : decode cX7_prints 171 = .ok (.istore 5, 2) := by decide +kernel
theorem dX7_prints_173 : decode cX7_prints 173 = .ok (.iload 5, 2) := by decide +kernel
theorem dX7_prints_175 : decode cX7_prints 175 = .ok (.aload_n 0, 1) := by decide +kernel
theorem dX7_prints_176 : decode cX7_prints 176 = .ok (.getfield 78, 3) := by decide +kernel
theorem dX7_prints_179 : decode cX7_prints 179 = .ok (.if_icmp .ge 119, 3) := by decide +kernel
theorem dX7_prints_182 : decode cX7_prints 182 = .ok (.iconst 0, 1) := by decide +kernel
theorem dX7_prints_183 : decode cX7_prints 183 = .ok (.istore 6, 2) := by decide +kernel
theorem dX7_prints_185 : decode cX7_prints 185 = .ok (.iload 6, 2) := by decide +kernel
theorem dX7_prints_187 : decode cX7_prints 187 = .ok (.aload_n 0, 1) := by decide +kernel
theorem dX7_prints_188 : decode cX7_prints 188 = .ok (.getfield 38, 3) := by decide +kernel
theorem dX7_prints_191 : decode cX7_prints 191 = .ok (.iload 5, 2) := by decide +kernel
theorem dX7_prints_193 : decode cX7_prints 193 = .ok (.iaload, 1) := by decide +kernel
theorem dX7_prints_194 : decode cX7_prints 194 = .ok (.if_icmp .ge 98, 3) := by decide +kernel
theorem dX7_prints_197 : decode cX7_prints 197 = .ok (.iload 4, 2) := by decide +kernel
theorem dX7_prints_199 : decode cX7_prints 199 = .ok (.iload 5, 2) := by decide +kernel
theorem dX7_prints_201 : decode cX7_prints 201 = .ok (.ishr, 1) := by decide +kernel
theorem dX7_prints_202 : decode cX7_prints 202 = .ok (.iconst 1, 1) := by decide +kernel
theorem dX7_prints_203 : decode cX7_prints 203 = .ok (.iand, 1) := by decide +kernel
theorem dX7_prints_204 : decode cX7_prints 204 = .ok (.iconst 1, 1) := by decide +kernel
theorem dX7_prints_205 : decode cX7_prints 205 = .ok (.if_icmp .ne 87, 3) := by decide +kernel
theorem dX7_prints_208 : decode cX7_prints 208 = .ok (.iload 5, 2) := by decide +kernel
theorem dX7_prints_210 : decode cX7_prints 210 = .ok (.iload 6, 2) := by decide +kernel
theorem dX7_prints_212 : decode cX7_prints 212 = .ok (.invokestatic 120, 3) := by decide +kernel
theorem dX7_prints_215 : decode cX7_prints 215 = .ok (.istore 7, 2) := by decide +kernel
theorem dX7_prints_217 : decode cX7_prints 217 = .ok (.aload_n 0, 1) := by decide +kernel
theorem dX7_prints_218 : decode cX7_prints 218 = .ok (.getfield 41, 3) := by decide +kernel
theorem dX7_prints_221 : decode cX7_prints 221 = .ok (.iconst 4, 1) := by decide +kernel
theorem dX7_prints_222 : decode cX7_prints 222 = .ok (.iload 5, 2) := by decide +kernel
theorem dX7_prints_224 : decode cX7_prints 224 = .ok (.imul, 1) := by decide +kernel
theorem dX7_prints_225 : decode cX7_prints 225 = .ok (.iload 6, 2) := by decide +kernel
theorem dX7_prints_227 : decode cX7_prints 227 = .ok (.iadd, 1) := by decide +kernel
theorem dX7_prints_228 : decode cX7_prints 228 = .ok (.aload_n 0, 1) := by decide +kernel
theorem dX7_prints_229 : decode cX7_prints 229 = .ok (.iload 7, 2) := by decide +kernel
theorem dX7_prints_231 : decode cX7_prints 231 = .ok (.invokevirtual 167, 3) := by decide +kernel
theorem dX7_prints_234 : decode cX7_prints 234 = .ok (.ifCond .eq 7, 3) := by decide +kernel
theorem dX7_prints_237 : decode cX7_prints 237 = .ok (.iconst 1, 1) := by decide +kernel
theorem dX7_prints_238 : decode cX7_prints 238 = .ok (.goto 17, 3) := by decide +kernel
theorem dX7_prints_241 : decode cX7_prints 241 = .ok (.aload_n 0, 1) := by decide +kernel
theorem dX7_prints_242 : decode cX7_prints 242 = .ok (.iload 7, 2) := by decide +kernel
theorem dX7_prints_244 : decode cX7_prints 244 = .ok (.invokevirtual 170, 3) := by decide +kernel
theorem dX7_prints_247 : decode cX7_prints 247 = .ok (.ifCond .eq 7, 3) := by decide +kernel
theorem dX7_prints_250 : decode cX7_prints 250 = .ok (.iconst 2, 1) := by decide +kernel
theorem dX7_prints_251 : decode cX7_prints 251 = .ok (.goto 4, 3) := by decide +kernel
theorem dX7_prints_254 : decode cX7_prints 254 = .ok (.iconst 3, 1) := by decide +kernel
theorem dX7_prints_255 : decode cX7_prints 255 = .ok (.iastore, 1) := by decide +kernel
theorem dX7_prints_256 : decode cX7_prints 256 = .ok (.aload_n 0, 1) := by decide +kernel
theorem dX7_prints_257 : decode cX7_prints 257 = .ok (.dup, 1) := by decide +kernel
theorem dX7_prints_258 : decode cX7_prints 258 = .ok (.getfield 173, 3) := by decide +kernel
theorem dX7_prints_261 : decode cX7_prints 261 = .ok (.aload_n 0, 1) := by decide +kernel
theorem dX7_prints_262 : decode cX7_prints 262 = .ok (.getfield 41, 3) := by decide +kernel
theorem dX7_prints_265 : decode cX7_prints 265 = .ok (.iconst 4, 1) := by decide +kernel
theorem dX7_prints_266 : decode cX7_prints 266 = .ok (.iload 5, 2) := by decide +kernel
theorem dX7_prints_268 : decode cX7_prints 268 = .ok (.imul, 1) := by decide +kernel
theorem dX7_prints_269 : decode cX7_prints 269 = .ok (.iload 6, 2) := by decide +kernel
theorem dX7_prints_271 : decode cX7_prints 271 = .ok (.iadd, 1) := by decide +kernel
theorem dX7_prints_272 : decode cX7_prints 272 = .ok (.iaload, 1) := by decide +kernel
theorem dX7_prints_273 : decode cX7_prints 273 = .ok (.iconst 3, 1) := by decide +kernel
theorem dX7_prints_274 : decode cX7_prints 274 = .ok (.if_icmp .ne 7, 3) := by decide +kernel
theorem dX7_prints_277 : decode cX7_prints 277 = .ok (.iconst 1, 1) := by decide +kernel
theorem dX7_prints_278 : decode cX7_prints 278 = .ok (.goto 4, 3) := by decide +kernel
theorem dX7_prints_281 : decode cX7_prints 281 = .ok (.iconst 0, 1) := by decide +kernel
theorem dX7_prints_282 : decode cX7_prints 282 = .ok (.iadd, 1) := by decide +kernel
theorem dX7_prints_283 : decode cX7_prints 283 = .ok (.putfield 173, 3) := by decide +kernel
theorem dX7_prints_286 : decode cX7_prints 286 = .ok (.iinc 6 1, 3) := by decide +kernel
theorem dX7_prints_289 : decode cX7_prints 289 = .ok (.goto (-104), 3) := by decide +kernel
theorem dX7_prints_292 : decode cX7_prints 292 = .ok (.iinc 5 1, 3) := by decide +kernel
theorem dX7_prints_295 : decode cX7_prints 295 = .ok (.goto (-122), 3) := by decide +kernel
theorem dX7_prints_298 : decode cX7_prints 298 = .ok (.iload_n 3, 1) := by decide +kernel
theorem dX7_prints_299 : decode cX7_prints 299 = .ok (.ireturn, 1) := by decide +kernel
theorem dX7_print_0 : decode cX7_print 0 = .ok (.aload_n 0, 1) := by decide +kernel
theorem dX7_print_1 : decode cX7_print 1 = .ok (.iload_n 1, 1) := by decide +kernel
theorem dX7_print_2 : decode cX7_print 2 = .ok (.iconst 0, 1) := by decide +kernel
theorem dX7_print_3 : decode cX7_print 3 = .ok (.aload_n 0, 1) := by decide +kernel
theorem dX7_print_4 : decode cX7_print 4 = .ok (.getfield 96, 3) := by decide +kernel
theorem dX7_print_7 : decode cX7_print 7 = .ok (.iconst 1, 1) := by decide +kernel
theorem dX7_print_8 : decode cX7_print 8 = .ok (.isub, 1) := by decide +kernel
theorem dX7_print_9 : decode cX7_print 9 = .ok (.invokestatic 81, 3) := by decide +kernel
theorem dX7_print_12 : decode cX7_print 12 = .ok (.ifCond .ne 7, 3) := by decide +kernel
theorem dX7_print_15 : decode cX7_print 15 = .ok (.iconst 1, 1) := by decide +kernel
theorem dX7_print_16 : decode cX7_print 16 = .ok (.goto 16, 3) := by decide +kernel
theorem dX7_print_19 : decode cX7_print 19 = .ok (.iload_n 1, 1) := by decide +kernel
theorem dX7_print_20 : decode cX7_print 20 = .ok (.aload_n 0, 1) := by decide +kernel
theorem dX7_print_21 : decode cX7_print 21 = .ok (.getfield 107, 3) := by decide +kernel
theorem dX7_print_24 : decode cX7_print 24 = .ok (.if_icmp .ne 7, 3) := by decide +kernel
theorem dX7_print_27 : decode cX7_print 27 = .ok (.iconst 0, 1) := by decide +kernel
theorem dX7_print_28 : decode cX7_print 28 = .ok (.goto 4, 3) := by decide +kernel
theorem dX7_print_31 : decode cX7_print 31 = .ok (.iconst 2, 1) := by decide +kernel
theorem dX7_print_32 : decode cX7_print 32 = .ok (.invokevirtual 103, 3) := by decide +kernel
theorem dX7_print_35 : decode cX7_print 35 = .ok (.ifCond .ne 5, 3) := by decide +kernel
theorem dX7_print_38 : decode cX7_print 38 = .ok (.iconst 0, 1) := by decide +kernel
theorem dX7_print_39 : decode cX7_print 39 = .ok (.ireturn, 1) := by decide +kernel
theorem dX7_print_40 : decode cX7_print 40 = .ok (.aload_n 0, 1) := by decide +kernel
theorem dX7_print_41 : decode cX7_print 41 = .ok (.dup, 1) := by decide +kernel
theorem dX7_print_42 : decode cX7_print 42 = .ok (.getfield 107, 3) := by decide +kernel
theorem dX7_print_45 : decode cX7_print 45 = .ok (.iconst 1, 1) := by decide +kernel
theorem dX7_print_46 : decode cX7_print 46 = .ok (.iadd, 1) := by decide +kernel
theorem dX7_print_47 : decode cX7_print 47 = .ok (.putfield 107, 3) := by decide +kernel
theorem dX7_print_50 : decode cX7_print 50 = .ok (.aload_n 0, 1) := by decide +kernel
theorem dX7_print_51 : decode cX7_print 51 = .ok (.iload_n 1, 1) := by decide +kernel
theorem dX7_print_52 : decode cX7_print 52 = .ok (.iload_n 1, 1) := by decide +kernel
theorem dX7_print_53 : decode cX7_print 53 = .ok (.invokevirtual 176, 3) := by decide +kernel
theorem dX7_print_56 : decode cX7_print 56 = .ok (.ireturn, 1) := by decide +kernel
theorem dX7_isOpen_0 : decode cX7_isOpen 0 = .ok (.iload_n 1, 1) := by decide +kernel
theorem dX7_isOpen_1 : decode cX7_isOpen 1 = .ok (.iload_n 2, 1) := by decide +kernel
theorem dX7_isOpen_2 : decode cX7_isOpen 2 = .ok (.invokestatic 120, 3) := by decide +kernel
theorem dX7_isOpen_5 : decode cX7_isOpen 5 = .ok (.istore_n 3, 1) := by decide +kernel
theorem dX7_isOpen_6 : decode cX7_isOpen 6 = .ok (.aload_n 0, 1) := by decide +kernel
theorem dX7_isOpen_7 : decode cX7_isOpen 7 = .ok (.getfield 41, 3) := by decide +kernel
theorem dX7_isOpen_10 : decode cX7_isOpen 10 = .ok (.iconst 4, 1) := by decide +kernel
theorem dX7_isOpen_11 : decode cX7_isOpen 11 = .ok (.iload_n 1, 1) := by decide +kernel
theorem dX7_isOpen_12 : decode cX7_isOpen 12 = .ok (.imul, 1) := by decide +kernel
theorem dX7_isOpen_13 : decode cX7_isOpen 13 = .ok (.iload_n 2, 1) := by decide +kernel
theorem dX7_isOpen_14 : decode cX7_isOpen 14 = .ok (.iadd, 1) := by decide +kernel
theorem dX7_isOpen_15 : decode cX7_isOpen 15 = .ok (.iaload, 1) := by decide +kernel
theorem dX7_isOpen_16 : decode cX7_isOpen 16 = .ok (.iconst 2, 1) := by decide +kernel
theorem dX7_isOpen_17 : decode cX7_isOpen 17 = .ok (.if_icmp .ne 23, 3) := by decide +kernel
theorem dX7_isOpen_20 : decode cX7_isOpen 20 = .ok (.aload_n 0, 1) := by decide +kernel
theorem dX7_isOpen_21 : decode cX7_isOpen 21 = .ok (.iload_n 3, 1) := by decide +kernel
theorem dX7_isOpen_22 : decode cX7_isOpen 22 = .ok (.invokevirtual 170, 3) := by decide +kernel
theorem dX7_isOpen_25 : decode cX7_isOpen 25 = .ok (.ifCond .ne 15, 3) := by decide +kernel
theorem dX7_isOpen_28 : decode cX7_isOpen 28 = .ok (.aload_n 0, 1) := by decide +kernel
theorem dX7_isOpen_29 : decode cX7_isOpen 29 = .ok (.iload_n 3, 1) := by decide +kernel
theorem dX7_isOpen_30 : decode cX7_isOpen 30 = .ok (.invokevirtual 167, 3) := by decide +kernel
theorem dX7_isOpen_33 : decode cX7_isOpen 33 = .ok (.ifCond .ne 7, 3) := by decide +kernel
theorem dX7_isOpen_36 : decode cX7_isOpen 36 = .ok (.iconst 1, 1) := by decide +kernel
theorem dX7_isOpen_37 : decode cX7_isOpen 37 = .ok (.goto 4, 3) := by decide +kernel
theorem dX7_isOpen_40 : decode cX7_isOpen 40 = .ok (.iconst 0, 1) := by decide +kernel
theorem dX7_isOpen_41 : decode cX7_isOpen 41 = .ok (.ireturn, 1) := by decide +kernel
theorem dX7_supplement_0 : decode cX7_supplement 0 = .ok (.aload_n 0, 1) := by decide +kernel
theorem dX7_supplement_1 : decode cX7_supplement 1 = .ok (.aload_n 0, 1) := by decide +kernel
theorem dX7_supplement_2 : decode cX7_supplement 2 = .ok (.getfield 107, 3) := by decide +kernel
theorem dX7_supplement_5 : decode cX7_supplement 5 = .ok (.ifCond .ne 7, 3) := by decide +kernel
theorem dX7_supplement_8 : decode cX7_supplement 8 = .ok (.iconst 1, 1) := by decide +kernel
theorem dX7_supplement_9 : decode cX7_supplement 9 = .ok (.goto 4, 3) := by decide +kernel
theorem dX7_supplement_12 : decode cX7_supplement 12 = .ok (.iconst 0, 1) := by decide +kernel
theorem dX7_supplement_13 : decode cX7_supplement 13 = .ok (.invokevirtual 103, 3) := by decide +kernel
theorem dX7_supplement_16 : decode cX7_supplement 16 = .ok (.ifCond .ne 5, 3) := by decide +kernel
theorem dX7_supplement_19 : decode cX7_supplement 19 = .ok (.iconst 0, 1) := by decide +kernel
theorem dX7_supplement_20 : decode cX7_supplement 20 = .ok (.ireturn, 1) := by decide +kernel
theorem dX7_supplement_21 : decode cX7_supplement 21 = .ok (.aload_n 0, 1) := by decide +kernel
theorem dX7_supplement_22 : decode cX7_supplement 22 = .ok (.iconst 0, 1) := by decide +kernel
theorem dX7_supplement_23 : decode cX7_supplement 23 = .ok (.aload_n 0, 1) := by decide +kernel
theorem dX7_supplement_24 : decode cX7_supplement 24 = .ok (.getfield 107, 3) := by decide +kernel
theorem dX7_supplement_27 : decode cX7_supplement 27 = .ok (.iconst 1, 1) := by decide +kernel
theorem dX7_supplement_28 : decode cX7_supplement 28 = .ok (.isub, 1) := by decide +kernel
theorem dX7_supplement_29 : decode cX7_supplement 29 = .ok (.invokevirtual 176, 3) := by decide +kernel
theorem dX7_supplement_32 : decode cX7_supplement 32 = .ok (.istore_n 1, 1) := by decide +kernel
theorem dX7_supplement_33 : decode cX7_supplement 33 = .ok (.iconst 0, 1) := by decide +kernel
theorem dX7_supplement_34 : decode cX7_supplement 34 = .ok (.istore_n 2, 1) := by decide +kernel
theorem dX7_supplement_35 : decode cX7_supplement 35 = .ok (.iconst 0, 1) := by decide +kernel
theorem dX7_supplement_36 : decode cX7_supplement 36 = .ok (.istore_n 3, 1) := by decide +kernel
theorem dX7_supplement_37 : decode cX7_supplement 37 = .ok (.iload_n 3, 1) := by decide +kernel
theorem dX7_supplement_38 : decode cX7_supplement 38 = .ok (.aload_n 0, 1) := by decide +kernel
theorem dX7_supplement_39 : decode cX7_supplement 39 = .ok (.getfield 78, 3) := by decide +kernel
theorem dX7_supplement_42 : decode cX7_supplement 42 = .ok (.if_icmp .ge 164, 3) := by decide +kernel
theorem dX7_supplement_45 : decode cX7_supplement 45 = .ok (.iconst 0, 1) := by decide +kernel
theorem dX7_supplement_46 : decode cX7_supplement 46 = .ok (.istore 4, 2) := by decide +kernel
theorem dX7_supplement_48 : decode cX7_supplement 48 = .ok (.iload 4, 2) := by decide +kernel
theorem dX7_supplement_50 : decode cX7_supplement 50 = .ok (.bipush 8, 2) := by decide +kernel
theorem dX7_supplement_52 : decode cX7_supplement 52 = .ok (.if_icmp .ge 103, 3) := by decide +kernel
theorem dX7_supplement_55 : decode cX7_supplement 55 = .ok (.aload_n 0, 1) := by decide +kernel
theorem dX7_supplement_56 : decode cX7_supplement 56 = .ok (.getfield 22, 3) := by decide +kernel
theorem dX7_supplement_59 : decode cX7_supplement 59 = .ok (.iload_n 3, 1) := by decide +kernel
theorem dX7_supplement_60 : decode cX7_supplement 60 = .ok (.iaload, 1) := by decide +kernel
theorem dX7_supplement_61 : decode cX7_supplement 61 = .ok (.iconst 3, 1) := by decide +kernel
theorem dX7_supplement_62 : decode cX7_supplement 62 = .ok (.if_icmp .ne 93, 3) := by decide +kernel
theorem dX7_supplement_65 : decode cX7_supplement 65 = .ok (.aload_n 0, 1) := by decide +kernel
theorem dX7_supplement_66 : decode cX7_supplement 66 = .ok (.getfield 44, 3) := by decide +kernel
theorem dX7_supplement_69 : decode cX7_supplement 69 = .ok (.bipush 8, 2) := by decide +kernel
theorem dX7_supplement_71 : decode cX7_supplement 71 = .ok (.iload_n 3, 1) := by decide +kernel
theorem dX7_supplement_72 : decode cX7_supplement 72 = .ok (.imul, 1) := by decide +kernel
theorem dX7_supplement_73 : decode cX7_supplement 73 = .ok (.iload 4, 2) := by decide +kernel
theorem dX7_supplement_75 : decode cX7_supplement 75 = .ok (.iadd, 1) := by decide +kernel
theorem dX7_supplement_76 : decode cX7_supplement 76 = .ok (.baload, 1) := by decide +kernel
theorem dX7_supplement_77 : decode cX7_supplement 77 = .ok (.ifCond .eq 72, 3) := by decide +kernel
theorem dX7_supplement_80 : decode cX7_supplement 80 = .ok (.aload_n 0, 1) := by decide +kernel
theorem dX7_supplement_81 : decode cX7_supplement 81 = .ok (.getfield 47, 3) := by decide +kernel
theorem dX7_supplement_84 : decode cX7_supplement 84 = .ok (.bipush 8, 2) := by decide +kernel
theorem dX7_supplement_86 : decode cX7_supplement 86 = .ok (.iload_n 3, 1) := by decide +kernel
theorem dX7_supplement_87 : decode cX7_supplement 87 = .ok (.imul, 1) := by decide +kernel
theorem dX7_supplement_88 : decode cX7_supplement 88 = .ok (.iload 4, 2) := by decide +kernel
theorem dX7_supplement_90 : decode cX7_supplement 90 = .ok (.iadd, 1) := by decide +kernel
theorem dX7_supplement_91 : decode cX7_supplement 91 = .ok (.iaload, 1) := by decide +kernel
theorem dX7_supplement_92 : decode cX7_supplement 92 = .ok (.aload_n 0, 1) := by decide +kernel
theorem dX7_supplement_93 : decode cX7_supplement 93 = .ok (.getfield 53, 3) := by decide +kernel
theorem dX7_supplement_96 : decode cX7_supplement 96 = .ok (.iload 4, 2) := by decide +kernel
theorem dX7_supplement_98 : decode cX7_supplement 98 = .ok (.iaload, 1) := by decide +kernel
theorem dX7_supplement_99 : decode cX7_supplement 99 = .ok (.if_icmp .eq 50, 3) := by decide +kernel
theorem dX7_supplement_102 : decode cX7_supplement 102 = .ok (.aload_n 0, 1) := by decide +kernel
theorem dX7_supplement_103 : decode cX7_supplement 103 = .ok (.getfield 47, 3) := by decide +kernel
theorem dX7_supplement_106 : decode cX7_supplement 106 = .ok (.bipush 8, 2) := by decide +kernel
theorem dX7_supplement_108 : decode cX7_supplement 108 = .ok (.iload_n 3, 1) := by decide +kernel
theorem dX7_supplement_109 : decode cX7_supplement 109 = .ok (.imul, 1) := by decide +kernel
theorem dX7_supplement_110 : decode cX7_supplement 110 = .ok (.iload 4, 2) := by decide +kernel
theorem dX7_supplement_112 : decode cX7_supplement 112 = .ok (.iadd, 1) := by decide +kernel
theorem dX7_supplement_113 : decode cX7_supplement 113 = .ok (.aload_n 0, 1) := by decide +kernel
theorem dX7_supplement_114 : decode cX7_supplement 114 = .ok (.getfield 53, 3) := by decide +kernel
theorem dX7_supplement_117 : decode cX7_supplement 117 = .ok (.iload 4, 2) := by decide +kernel
theorem dX7_supplement_119 : decode cX7_supplement 119 = .ok (.iaload, 1) := by decide +kernel
theorem dX7_supplement_120 : decode cX7_supplement 120 = .ok (.iastore, 1) := by decide +kernel
theorem dX7_supplement_121 : decode cX7_supplement 121 = .ok (.iinc 2 1, 3) := by decide +kernel
theorem dX7_supplement_124 : decode cX7_supplement 124 = .ok (.aload_n 0, 1) := by decide +kernel
theorem dX7_supplement_125 : decode cX7_supplement 125 = .ok (.getfield 25, 3) := by decide +kernel
theorem dX7_supplement_128 : decode cX7_supplement 128 = .ok (.iload_n 3, 1) := by decide +kernel
theorem dX7_supplement_129 : decode cX7_supplement 129 = .ok (.iaload, 1) := by decide +kernel
theorem dX7_supplement_130 : decode cX7_supplement 130 = .ok (.iconst (-1), 1) := by decide +kernel
theorem dX7_supplement_131 : decode cX7_supplement 131 = .ok (.if_icmp .eq 18, 3) := by decide +kernel
theorem dX7_supplement_134 : decode cX7_supplement 134 = .ok (.aload_n 0, 1) := by decide +kernel
theorem dX7_supplement_135 : decode cX7_supplement 135 = .ok (.getfield 71, 3) := by decide +kernel
theorem dX7_supplement_138 : decode cX7_supplement 138 = .ok (.aload_n 0, 1) := by decide +kernel
theorem dX7_supplement_139 : decode cX7_supplement 139 = .ok (.getfield 25, 3) := by decide +kernel
theorem dX7_supplement_142 : decode cX7_supplement 142 = .ok (.iload_n 3, 1) := by decide +kernel
theorem dX7_supplement_143 : decode cX7_supplement 143 = .ok (.iaload, 1) := by decide +kernel
theorem dX7_supplement_144 : decode cX7_supplement 144 = .ok (.dup2, 1) := by decide +kernel
theorem dX7_supplement_145 : decode cX7_supplement 145 = .ok (.iaload, 1) := by decide +kernel
theorem dX7_supplement_146 : decode cX7_supplement 146 = .ok (.iconst 1, 1) := by decide +kernel
theorem dX7_supplement_147 : decode cX7_supplement 147 = .ok (.iadd, 1) := by decide +kernel
theorem dX7_supplement_148 : decode cX7_supplement 148 = .ok (.iastore, 1) := by decide +kernel
theorem dX7_supplement_149 : decode cX7_supplement 149 = .ok (.iinc 4 1, 3) := by decide +kernel
theorem dX7_supplement_152 : decode cX7_supplement 152 = .ok (.goto (-104), 3) := by decide +kernel
theorem dX7_supplement_155 : decode cX7_supplement 155 = .ok (.iconst 0, 1) := by decide +kernel
theorem dX7_supplement_156 : decode cX7_supplement 156 = .ok (.istore 4, 2) := by decide +kernel
theorem dX7_supplement_158 : decode cX7_supplement 158 = .ok (.iload 4, 2) := by decide +kernel
theorem dX7_supplement_160 : decode cX7_supplement 160 = .ok (.aload_n 0, 1) := by decide +kernel
theorem dX7_supplement_161 : decode cX7_supplement 161 = .ok (.getfield 38, 3) := by decide +kernel
theorem dX7_supplement_164 : decode cX7_supplement 164 = .ok (.iload_n 3, 1) := by decide +kernel
theorem dX7_supplement_165 : decode cX7_supplement 165 = .ok (.iaload, 1) := by decide +kernel
theorem dX7_supplement_166 : decode cX7_supplement 166 = .ok (.if_icmp .ge 34, 3) := by decide +kernel
theorem dX7_supplement_169 : decode cX7_supplement 169 = .ok (.aload_n 0, 1) := by decide +kernel
theorem dX7_supplement_170 : decode cX7_supplement 170 = .ok (.iload_n 3, 1) := by decide +kernel
theorem dX7_supplement_171 : decode cX7_supplement 171 = .ok (.iload 4, 2) := by decide +kernel
theorem dX7_supplement_173 : decode cX7_supplement 173 = .ok (.invokevirtual 179, 3) := by decide +kernel
theorem dX7_supplement_176 : decode cX7_supplement 176 = .ok (.ifCond .eq 18, 3) := by decide +kernel
theorem dX7_supplement_179 : decode cX7_supplement 179 = .ok (.aload_n 0, 1) := by decide +kernel
theorem dX7_supplement_180 : decode cX7_supplement 180 = .ok (.getfield 41, 3) := by decide +kernel
theorem dX7_supplement_183 : decode cX7_supplement 183 = .ok (.iconst 4, 1) := by decide +kernel
theorem dX7_supplement_184 : decode cX7_supplement 184 = .ok (.iload_n 3, 1) := by decide +kernel
theorem dX7_supplement_185 : decode cX7_supplement 185 = .ok (.imul, 1) := by decide +kernel
theorem dX7_supplement_186 : decode cX7_supplement 186 = .ok (.iload 4, 2) := by decide +kernel
theorem dX7_supplement_188 : decode cX7_supplement 188 = .ok (.iadd, 1) := by decide +kernel
theorem dX7_supplement_189 : decode cX7_supplement 189 = .ok (.iconst 4, 1) := by decide +kernel
theorem dX7_supplement_190 : decode cX7_supplement 190 = .ok (.iastore, 1) := by decide +kernel
theorem dX7_supplement_191 : decode cX7_supplement 191 = .ok (.iinc 2 1, 3) := by decide +kernel
theorem dX7_supplement_194 : decode cX7_supplement 194 = .ok (.iinc 4 1, 3) := by decide +kernel
theorem dX7_supplement_197 : decode cX7_supplement 197 = .ok (.goto (-39), 3) := by decide +kernel
theorem dX7_supplement_200 : decode cX7_supplement 200 = .ok (.iinc 3 1, 3) := by decide +kernel
theorem dX7_supplement_203 : decode cX7_supplement 203 = .ok (.goto (-166), 3) := by decide +kernel
theorem dX7_supplement_206 : decode cX7_supplement 206 = .ok (.bipush 100, 2) := by decide +kernel
theorem dX7_supplement_208 : decode cX7_supplement 208 = .ok (.iload_n 1, 1) := by decide +kernel
theorem dX7_supplement_209 : decode cX7_supplement 209 = .ok (.imul, 1) := by decide +kernel
theorem dX7_supplement_210 : decode cX7_supplement 210 = .ok (.iload_n 2, 1) := by decide +kernel
theorem dX7_supplement_211 : decode cX7_supplement 211 = .ok (.iadd, 1) := by decide +kernel
theorem dX7_supplement_212 : decode cX7_supplement 212 = .ok (.ireturn, 1) := by decide +kernel
theorem dX7_month_0 : decode cX7_month 0 = .ok (.aload_n 0, 1) := by decide +kernel
theorem dX7_month_1 : decode cX7_month 1 = .ok (.iconst 0, 1) := by decide +kernel
theorem dX7_month_2 : decode cX7_month 2 = .ok (.putfield 74, 3) := by decide +kernel
theorem dX7_month_5 : decode cX7_month 5 = .ok (.aload_n 0, 1) := by decide +kernel
theorem dX7_month_6 : decode cX7_month 6 = .ok (.getfield 148, 3) := by decide +kernel
theorem dX7_month_9 : decode cX7_month 9 = .ok (.ireturn, 1) := by decide +kernel
theorem dX7_at_0 : decode cX7_at 0 = .ok (.aload_n 0, 1) := by decide +kernel
theorem dX7_at_1 : decode cX7_at 1 = .ok (.iload_n 1, 1) := by decide +kernel
theorem dX7_at_2 : decode cX7_at 2 = .ok (.ifCond .ge 7, 3) := by decide +kernel
theorem dX7_at_5 : decode cX7_at 5 = .ok (.iconst 1, 1) := by decide +kernel
theorem dX7_at_6 : decode cX7_at 6 = .ok (.goto 4, 3) := by decide +kernel
theorem dX7_at_9 : decode cX7_at 9 = .ok (.iconst 0, 1) := by decide +kernel
theorem dX7_at_10 : decode cX7_at 10 = .ok (.invokevirtual 103, 3) := by decide +kernel
theorem dX7_at_13 : decode cX7_at 13 = .ok (.ifCond .ne 5, 3) := by decide +kernel
theorem dX7_at_16 : decode cX7_at 16 = .ok (.iconst 0, 1) := by decide +kernel
theorem dX7_at_17 : decode cX7_at 17 = .ok (.ireturn, 1) := by decide +kernel
theorem dX7_at_18 : decode cX7_at 18 = .ok (.iconst 0, 1) := by decide +kernel
theorem dX7_at_19 : decode cX7_at 19 = .ok (.istore_n 2, 1) := by decide +kernel
theorem dX7_at_20 : decode cX7_at 20 = .ok (.iload_n 2, 1) := by decide +kernel
theorem dX7_at_21 : decode cX7_at 21 = .ok (.aload_n 0, 1) := by decide +kernel
theorem dX7_at_22 : decode cX7_at 22 = .ok (.getfield 78, 3) := by decide +kernel
theorem dX7_at_25 : decode cX7_at 25 = .ok (.if_icmp .ge 60, 3) := by decide +kernel
theorem dX7_at_28 : decode cX7_at 28 = .ok (.iconst 0, 1) := by decide +kernel
theorem dX7_at_29 : decode cX7_at 29 = .ok (.istore_n 3, 1) := by decide +kernel
theorem dX7_at_30 : decode cX7_at 30 = .ok (.iconst 0, 1) := by decide +kernel
theorem dX7_at_31 : decode cX7_at 31 = .ok (.istore 4, 2) := by decide +kernel
theorem dX7_at_33 : decode cX7_at 33 = .ok (.iload 4, 2) := by decide +kernel
theorem dX7_at_35 : decode cX7_at 35 = .ok (.aload_n 0, 1) := by decide +kernel
theorem dX7_at_36 : decode cX7_at 36 = .ok (.getfield 78, 3) := by decide +kernel
theorem dX7_at_39 : decode cX7_at 39 = .ok (.if_icmp .ge 33, 3) := by decide +kernel
theorem dX7_at_42 : decode cX7_at 42 = .ok (.iload_n 3, 1) := by decide +kernel
theorem dX7_at_43 : decode cX7_at 43 = .ok (.iload 4, 2) := by decide +kernel
theorem dX7_at_45 : decode cX7_at 45 = .ok (.iload_n 2, 1) := by decide +kernel
theorem dX7_at_46 : decode cX7_at 46 = .ok (.if_icmp .eq 17, 3) := by decide +kernel
theorem dX7_at_49 : decode cX7_at 49 = .ok (.aload_n 0, 1) := by decide +kernel
theorem dX7_at_50 : decode cX7_at 50 = .ok (.iload 4, 2) := by decide +kernel
theorem dX7_at_52 : decode cX7_at 52 = .ok (.iload_n 2, 1) := by decide +kernel
theorem dX7_at_53 : decode cX7_at 53 = .ok (.invokevirtual 132, 3) := by decide +kernel
theorem dX7_at_56 : decode cX7_at 56 = .ok (.ifCond .eq 7, 3) := by decide +kernel
theorem dX7_at_59 : decode cX7_at 59 = .ok (.iconst 1, 1) := by decide +kernel
theorem dX7_at_60 : decode cX7_at 60 = .ok (.goto 4, 3) := by decide +kernel
theorem dX7_at_63 : decode cX7_at 63 = .ok (.iconst 0, 1) := by decide +kernel
theorem dX7_at_64 : decode cX7_at 64 = .ok (.iadd, 1) := by decide +kernel
theorem dX7_at_65 : decode cX7_at 65 = .ok (.istore_n 3, 1) := by decide +kernel
theorem dX7_at_66 : decode cX7_at 66 = .ok (.iinc 4 1, 3) := by decide +kernel
theorem dX7_at_69 : decode cX7_at 69 = .ok (.goto (-36), 3) := by decide +kernel
theorem dX7_at_72 : decode cX7_at 72 = .ok (.iload_n 3, 1) := by decide +kernel
theorem dX7_at_73 : decode cX7_at 73 = .ok (.iload_n 1, 1) := by decide +kernel
theorem dX7_at_74 : decode cX7_at 74 = .ok (.if_icmp .ne 5, 3) := by decide +kernel
theorem dX7_at_77 : decode cX7_at 77 = .ok (.iload_n 2, 1) := by decide +kernel
theorem dX7_at_78 : decode cX7_at 78 = .ok (.ireturn, 1) := by decide +kernel
theorem dX7_at_79 : decode cX7_at 79 = .ok (.iinc 2 1, 3) := by decide +kernel
theorem dX7_at_82 : decode cX7_at 82 = .ok (.goto (-62), 3) := by decide +kernel
theorem dX7_at_85 : decode cX7_at 85 = .ok (.iconst (-1), 1) := by decide +kernel
theorem dX7_at_86 : decode cX7_at 86 = .ok (.ireturn, 1) := by decide +kernel
theorem dX7_about_0 : decode cX7_about 0 = .ok (.aload_n 0, 1) := by decide +kernel
theorem dX7_about_1 : decode cX7_about 1 = .ok (.aload_n 0, 1) := by decide +kernel
theorem dX7_about_2 : decode cX7_about 2 = .ok (.iload_n 1, 1) := by decide +kernel
theorem dX7_about_3 : decode cX7_about 3 = .ok (.invokevirtual 117, 3) := by decide +kernel
theorem dX7_about_6 : decode cX7_about 6 = .ok (.ifCond .ne 7, 3) := by decide +kernel
theorem dX7_about_9 : decode cX7_about 9 = .ok (.iconst 1, 1) := by decide +kernel
theorem dX7_about_10 : decode cX7_about 10 = .ok (.goto 17, 3) := by decide +kernel
theorem dX7_about_13 : decode cX7_about 13 = .ok (.iload_n 2, 1) := by decide +kernel
theorem dX7_about_14 : decode cX7_about 14 = .ok (.iconst 0, 1) := by decide +kernel
theorem dX7_about_15 : decode cX7_about 15 = .ok (.iconst 4, 1) := by decide +kernel
theorem dX7_about_16 : decode cX7_about 16 = .ok (.invokestatic 81, 3) := by decide +kernel
theorem dX7_about_19 : decode cX7_about 19 = .ok (.ifCond .eq 7, 3) := by decide +kernel
theorem dX7_about_22 : decode cX7_about 22 = .ok (.iconst 0, 1) := by decide +kernel
theorem dX7_about_23 : decode cX7_about 23 = .ok (.goto 4, 3) := by decide +kernel
theorem dX7_about_26 : decode cX7_about 26 = .ok (.iconst 2, 1) := by decide +kernel
theorem dX7_about_27 : decode cX7_about 27 = .ok (.invokevirtual 103, 3) := by decide +kernel
theorem dX7_about_30 : decode cX7_about 30 = .ok (.ifCond .ne 5, 3) := by decide +kernel
theorem dX7_about_33 : decode cX7_about 33 = .ok (.iconst 0, 1) := by decide +kernel
theorem dX7_about_34 : decode cX7_about 34 = .ok (.ireturn, 1) := by decide +kernel
theorem dX7_about_35 : decode cX7_about 35 = .ok (.iload_n 2, 1) := by decide +kernel
theorem dX7_about_36 : decode cX7_about 36 = .ok (.ifCond .ne 12, 3) := by decide +kernel
theorem dX7_about_39 : decode cX7_about 39 = .ok (.aload_n 0, 1) := by decide +kernel
theorem dX7_about_40 : decode cX7_about 40 = .ok (.getfield 22, 3) := by decide +kernel
theorem dX7_about_43 : decode cX7_about 43 = .ok (.iload_n 1, 1) := by decide +kernel
theorem dX7_about_44 : decode cX7_about 44 = .ok (.iaload, 1) := by decide +kernel
theorem dX7_about_45 : decode cX7_about 45 = .ok (.goto 49, 3) := by decide +kernel
theorem dX7_about_48 : decode cX7_about 48 = .ok (.iload_n 2, 1) := by decide +kernel
theorem dX7_about_49 : decode cX7_about 49 = .ok (.iconst 1, 1) := by decide +kernel
theorem dX7_about_50 : decode cX7_about 50 = .ok (.if_icmp .ne 11, 3) := by decide +kernel
theorem dX7_about_53 : decode cX7_about 53 = .ok (.aload_n 0, 1) := by decide +kernel
theorem dX7_about_54 : decode cX7_about 54 = .ok (.iload_n 1, 1) := by decide +kernel
theorem dX7_about_55 : decode cX7_about 55 = .ok (.invokevirtual 129, 3) := by decide +kernel
theorem dX7_about_58 : decode cX7_about 58 = .ok (.goto 36, 3) := by decide +kernel
theorem dX7_about_61 : decode cX7_about 61 = .ok (.iload_n 2, 1) := by decide +kernel
theorem dX7_about_62 : decode cX7_about 62 = .ok (.iconst 2, 1) := by decide +kernel
theorem dX7_about_63 : decode cX7_about 63 = .ok (.if_icmp .ne 11, 3) := by decide +kernel
theorem dX7_about_66 : decode cX7_about 66 = .ok (.aload_n 0, 1) := by decide +kernel
theorem dX7_about_67 : decode cX7_about 67 = .ok (.iload_n 1, 1) := by decide +kernel
theorem dX7_about_68 : decode cX7_about 68 = .ok (.invokevirtual 145, 3) := by decide +kernel
theorem dX7_about_71 : decode cX7_about 71 = .ok (.goto 23, 3) := by decide +kernel
theorem dX7_about_74 : decode cX7_about 74 = .ok (.iload_n 2, 1) := by decide +kernel
theorem dX7_about_75 : decode cX7_about 75 = .ok (.iconst 3, 1) := by decide +kernel
theorem dX7_about_76 : decode cX7_about 76 = .ok (.if_icmp .ne 12, 3) := by decide +kernel
theorem dX7_about_79 : decode cX7_about 79 = .ok (.aload_n 0, 1) := by decide +kernel
theorem dX7_about_80 : decode cX7_about 80 = .ok (.getfield 25, 3) := by decide +kernel
theorem dX7_about_83 : decode cX7_about 83 = .ok (.iload_n 1, 1) := by decide +kernel
theorem dX7_about_84 : decode cX7_about 84 = .ok (.iaload, 1) := by decide +kernel
theorem dX7_about_85 : decode cX7_about 85 = .ok (.goto 9, 3) := by decide +kernel
theorem dX7_about_88 : decode cX7_about 88 = .ok (.aload_n 0, 1) := by decide +kernel
theorem dX7_about_89 : decode cX7_about 89 = .ok (.getfield 28, 3) := by decide +kernel
theorem dX7_about_92 : decode cX7_about 92 = .ok (.iload_n 1, 1) := by decide +kernel
theorem dX7_about_93 : decode cX7_about 93 = .ok (.iaload, 1) := by decide +kernel
theorem dX7_about_94 : decode cX7_about 94 = .ok (.ireturn, 1) := by decide +kernel
theorem dX7_struck_0 : decode cX7_struck 0 = .ok (.aload_n 0, 1) := by decide +kernel
theorem dX7_struck_1 : decode cX7_struck 1 = .ok (.iconst 0, 1) := by decide +kernel
theorem dX7_struck_2 : decode cX7_struck 2 = .ok (.putfield 74, 3) := by decide +kernel
theorem dX7_struck_5 : decode cX7_struck 5 = .ok (.aload_n 0, 1) := by decide +kernel
theorem dX7_struck_6 : decode cX7_struck 6 = .ok (.getfield 173, 3) := by decide +kernel
theorem dX7_struck_9 : decode cX7_struck 9 = .ok (.ireturn, 1) := by decide +kernel
theorem dX7_errata_0 : decode cX7_errata 0 = .ok (.aload_n 0, 1) := by decide +kernel
theorem dX7_errata_1 : decode cX7_errata 1 = .ok (.aload_n 0, 1) := by decide +kernel
theorem dX7_errata_2 : decode cX7_errata 2 = .ok (.iload_n 1, 1) := by decide +kernel
theorem dX7_errata_3 : decode cX7_errata 3 = .ok (.invokevirtual 136, 3) := by decide +kernel
theorem dX7_errata_6 : decode cX7_errata 6 = .ok (.ifCond .eq 7, 3) := by decide +kernel
theorem dX7_errata_9 : decode cX7_errata 9 = .ok (.iconst 0, 1) := by decide +kernel
theorem dX7_errata_10 : decode cX7_errata 10 = .ok (.goto 4, 3) := by decide +kernel
theorem dX7_errata_13 : decode cX7_errata 13 = .ok (.iconst 1, 1) := by decide +kernel
theorem dX7_errata_14 : decode cX7_errata 14 = .ok (.invokevirtual 103, 3) := by decide +kernel
theorem dX7_errata_17 : decode cX7_errata 17 = .ok (.ifCond .eq 12, 3) := by decide +kernel
theorem dX7_errata_20 : decode cX7_errata 20 = .ok (.aload_n 0, 1) := by decide +kernel
theorem dX7_errata_21 : decode cX7_errata 21 = .ok (.getfield 71, 3) := by decide +kernel
theorem dX7_errata_24 : decode cX7_errata 24 = .ok (.iload_n 1, 1) := by decide +kernel
theorem dX7_errata_25 : decode cX7_errata 25 = .ok (.iaload, 1) := by decide +kernel
theorem dX7_errata_26 : decode cX7_errata 26 = .ok (.goto 4, 3) := by decide +kernel
theorem dX7_errata_29 : decode cX7_errata 29 = .ok (.iconst 0, 1) := by decide +kernel
theorem dX7_errata_30 : decode cX7_errata 30 = .ok (.ireturn, 1) := by decide +kernel
theorem dX7_opens_0 : decode cX7_opens 0 = .ok (.iconst 0, 1) := by decide +kernel
theorem dX7_opens_1 : decode cX7_opens 1 = .ok (.istore_n 2, 1) := by decide +kernel
theorem dX7_opens_2 : decode cX7_opens 2 = .ok (.iconst 0, 1) := by decide +kernel
theorem dX7_opens_3 : decode cX7_opens 3 = .ok (.istore_n 3, 1) := by decide +kernel
theorem dX7_opens_4 : decode cX7_opens 4 = .ok (.iload_n 3, 1) := by decide +kernel
theorem dX7_opens_5 : decode cX7_opens 5 = .ok (.aload_n 0, 1) := by decide +kernel
theorem dX7_opens_6 : decode cX7_opens 6 = .ok (.getfield 78, 3) := by decide +kernel
theorem dX7_opens_9 : decode cX7_opens 9 = .ok (.if_icmp .ge 60, 3) := by decide +kernel
theorem dX7_opens_12 : decode cX7_opens 12 = .ok (.iconst 0, 1) := by decide +kernel
theorem dX7_opens_13 : decode cX7_opens 13 = .ok (.istore 4, 2) := by decide +kernel
theorem dX7_opens_15 : decode cX7_opens 15 = .ok (.iload 4, 2) := by decide +kernel
theorem dX7_opens_17 : decode cX7_opens 17 = .ok (.aload_n 0, 1) := by decide +kernel
theorem dX7_opens_18 : decode cX7_opens 18 = .ok (.getfield 38, 3) := by decide +kernel
theorem dX7_opens_21 : decode cX7_opens 21 = .ok (.iload_n 3, 1) := by decide +kernel
theorem dX7_opens_22 : decode cX7_opens 22 = .ok (.iaload, 1) := by decide +kernel
theorem dX7_opens_23 : decode cX7_opens 23 = .ok (.if_icmp .ge 40, 3) := by decide +kernel
theorem dX7_opens_26 : decode cX7_opens 26 = .ok (.iload_n 1, 1) := by decide +kernel
theorem dX7_opens_27 : decode cX7_opens 27 = .ok (.ifCond .ne 12, 3) := by decide +kernel
theorem dX7_opens_30 : decode cX7_opens 30 = .ok (.aload_n 0, 1) := by decide +kernel
theorem dX7_opens_31 : decode cX7_opens 31 = .ok (.getfield 34, 3) := by decide +kernel
theorem dX7_opens_34 : decode cX7_opens 34 = .ok (.iload_n 3, 1) := by decide +kernel
theorem dX7_opens_35 : decode cX7_opens 35 = .ok (.baload, 1) := by decide +kernel
theorem dX7_opens_36 : decode cX7_opens 36 = .ok (.ifCond .ne 27, 3) := by decide +kernel
theorem dX7_opens_39 : decode cX7_opens 39 = .ok (.iload_n 2, 1) := by decide +kernel
theorem dX7_opens_40 : decode cX7_opens 40 = .ok (.aload_n 0, 1) := by decide +kernel
theorem dX7_opens_41 : decode cX7_opens 41 = .ok (.iload_n 3, 1) := by decide +kernel
theorem dX7_opens_42 : decode cX7_opens 42 = .ok (.iload 4, 2) := by decide +kernel
theorem dX7_opens_44 : decode cX7_opens 44 = .ok (.invokevirtual 179, 3) := by decide +kernel
theorem dX7_opens_47 : decode cX7_opens 47 = .ok (.ifCond .eq 7, 3) := by decide +kernel
theorem dX7_opens_50 : decode cX7_opens 50 = .ok (.iconst 1, 1) := by decide +kernel
theorem dX7_opens_51 : decode cX7_opens 51 = .ok (.goto 4, 3) := by decide +kernel
theorem dX7_opens_54 : decode cX7_opens 54 = .ok (.iconst 0, 1) := by decide +kernel
theorem dX7_opens_55 : decode cX7_opens 55 = .ok (.iadd, 1) := by decide +kernel
theorem dX7_opens_56 : decode cX7_opens 56 = .ok (.istore_n 2, 1) := by decide +kernel
theorem dX7_opens_57 : decode cX7_opens 57 = .ok (.iinc 4 1, 3) := by decide +kernel
theorem dX7_opens_60 : decode cX7_opens 60 = .ok (.goto (-45), 3) := by decide +kernel
theorem dX7_opens_63 : decode cX7_opens 63 = .ok (.iinc 3 1, 3) := by decide +kernel
theorem dX7_opens_66 : decode cX7_opens 66 = .ok (.goto (-62), 3) := by decide +kernel
theorem dX7_opens_69 : decode cX7_opens 69 = .ok (.iload_n 2, 1) := by decide +kernel
theorem dX7_opens_70 : decode cX7_opens 70 = .ok (.ireturn, 1) := by decide +kernel
theorem dX7_open_0 : decode cX7_open 0 = .ok (.aload_n 0, 1) := by decide +kernel
theorem dX7_open_1 : decode cX7_open 1 = .ok (.iconst 0, 1) := by decide +kernel
theorem dX7_open_2 : decode cX7_open 2 = .ok (.putfield 74, 3) := by decide +kernel
theorem dX7_open_5 : decode cX7_open 5 = .ok (.aload_n 0, 1) := by decide +kernel
theorem dX7_open_6 : decode cX7_open 6 = .ok (.iload_n 1, 1) := by decide +kernel
theorem dX7_open_7 : decode cX7_open 7 = .ok (.invokevirtual 182, 3) := by decide +kernel
theorem dX7_open_10 : decode cX7_open 10 = .ok (.ireturn, 1) := by decide +kernel
theorem dX7_contradicts_0 : decode cX7_contradicts 0 = .ok (.iconst 0, 1) := by decide +kernel
theorem dX7_contradicts_1 : decode cX7_contradicts 1 = .ok (.istore_n 2, 1) := by decide +kernel
theorem dX7_contradicts_2 : decode cX7_contradicts 2 = .ok (.iconst 0, 1) := by decide +kernel
theorem dX7_contradicts_3 : decode cX7_contradicts 3 = .ok (.istore_n 3, 1) := by decide +kernel
theorem dX7_contradicts_4 : decode cX7_contradicts 4 = .ok (.iload_n 3, 1) := by decide +kernel
theorem dX7_contradicts_5 : decode cX7_contradicts 5 = .ok (.bipush 8, 2) := by decide +kernel
theorem dX7_contradicts_7 : decode cX7_contradicts 7 = .ok (.if_icmp .ge 134, 3) := by decide +kernel
theorem dX7_contradicts_10 : decode cX7_contradicts 10 = .ok (.iconst 0, 1) := by decide +kernel
theorem dX7_contradicts_11 : decode cX7_contradicts 11 = .ok (.istore 4, 2) := by decide +kernel
theorem dX7_contradicts_13 : decode cX7_contradicts 13 = .ok (.iconst 0, 1) := by decide +kernel
theorem dX7_contradicts_14 : decode cX7_contradicts 14 = .ok (.istore 5, 2) := by decide +kernel
theorem dX7_contradicts_16 : decode cX7_contradicts 16 = .ok (.iconst 0, 1) := by decide +kernel
theorem dX7_contradicts_17 : decode cX7_contradicts 17 = .ok (.istore 6, 2) := by decide +kernel
theorem dX7_contradicts_19 : decode cX7_contradicts 19 = .ok (.iconst 0, 1) := by decide +kernel
theorem dX7_contradicts_20 : decode cX7_contradicts 20 = .ok (.istore 7, 2) := by decide +kernel
theorem dX7_contradicts_22 : decode cX7_contradicts 22 = .ok (.iload 7, 2) := by decide +kernel
theorem dX7_contradicts_24 : decode cX7_contradicts 24 = .ok (.aload_n 0, 1) := by decide +kernel
theorem dX7_contradicts_25 : decode cX7_contradicts 25 = .ok (.getfield 78, 3) := by decide +kernel
theorem dX7_contradicts_28 : decode cX7_contradicts 28 = .ok (.if_icmp .ge 94, 3) := by decide +kernel
theorem dX7_contradicts_31 : decode cX7_contradicts 31 = .ok (.bipush 8, 2) := by decide +kernel
theorem dX7_contradicts_33 : decode cX7_contradicts 33 = .ok (.iload 7, 2) := by decide +kernel
theorem dX7_contradicts_35 : decode cX7_contradicts 35 = .ok (.imul, 1) := by decide +kernel
theorem dX7_contradicts_36 : decode cX7_contradicts 36 = .ok (.iload_n 3, 1) := by decide +kernel
theorem dX7_contradicts_37 : decode cX7_contradicts 37 = .ok (.iadd, 1) := by decide +kernel
theorem dX7_contradicts_38 : decode cX7_contradicts 38 = .ok (.istore 8, 2) := by decide +kernel
theorem dX7_contradicts_40 : decode cX7_contradicts 40 = .ok (.aload_n 0, 1) := by decide +kernel
theorem dX7_contradicts_41 : decode cX7_contradicts 41 = .ok (.getfield 22, 3) := by decide +kernel
theorem dX7_contradicts_44 : decode cX7_contradicts 44 = .ok (.iload 7, 2) := by decide +kernel
theorem dX7_contradicts_46 : decode cX7_contradicts 46 = .ok (.iaload, 1) := by decide +kernel
theorem dX7_contradicts_47 : decode cX7_contradicts 47 = .ok (.iconst 3, 1) := by decide +kernel
theorem dX7_contradicts_48 : decode cX7_contradicts 48 = .ok (.if_icmp .ne 68, 3) := by decide +kernel
theorem dX7_contradicts_51 : decode cX7_contradicts 51 = .ok (.aload_n 0, 1) := by decide +kernel
theorem dX7_contradicts_52 : decode cX7_contradicts 52 = .ok (.getfield 44, 3) := by decide +kernel
theorem dX7_contradicts_55 : decode cX7_contradicts 55 = .ok (.iload 8, 2) := by decide +kernel
theorem dX7_contradicts_57 : decode cX7_contradicts 57 = .ok (.baload, 1) := by decide +kernel
theorem dX7_contradicts_58 : decode cX7_contradicts 58 = .ok (.ifCond .eq 58, 3) := by decide +kernel
theorem dX7_contradicts_61 : decode cX7_contradicts 61 = .ok (.iload_n 1, 1) := by decide +kernel
theorem dX7_contradicts_62 : decode cX7_contradicts 62 = .ok (.ifCond .ne 13, 3) := by decide +kernel
theorem dX7_contradicts_65 : decode cX7_contradicts 65 = .ok (.aload_n 0, 1) := by decide +kernel
theorem dX7_contradicts_66 : decode cX7_contradicts 66 = .ok (.getfield 34, 3) := by decide +kernel
theorem dX7_contradicts_69 : decode cX7_contradicts 69 = .ok (.iload 7, 2) := by decide +kernel
theorem dX7_contradicts_71 : decode cX7_contradicts 71 = .ok (.baload, 1) := by decide +kernel
theorem dX7_contradicts_72 : decode cX7_contradicts 72 = .ok (.ifCond .ne 44, 3) := by decide +kernel
theorem dX7_contradicts_75 : decode cX7_contradicts 75 = .ok (.iload 5, 2) := by decide +kernel
theorem dX7_contradicts_77 : decode cX7_contradicts 77 = .ok (.ifCond .ne 20, 3) := by decide +kernel
theorem dX7_contradicts_80 : decode cX7_contradicts 80 = .ok (.iload 4, 2) := by decide +kernel
theorem dX7_contradicts_82 : decode cX7_contradicts 82 = .ok (.ifCond .eq 19, 3) := by decide +kernel
theorem dX7_contradicts_85 : decode cX7_contradicts 85 = .ok (.aload_n 0, 1) := by decide +kernel
theorem dX7_contradicts_86 : decode cX7_contradicts 86 = .ok (.getfield 47, 3) := by decide +kernel
theorem dX7_contradicts_89 : decode cX7_contradicts 89 = .ok (.iload 8, 2) := by decide +kernel
theorem dX7_contradicts_91 : decode cX7_contradicts 91 = .ok (.iaload, 1) := by decide +kernel
theorem dX7_contradicts_92 : decode cX7_contradicts 92 = .ok (.iload 6, 2) := by decide +kernel
theorem dX7_contradicts_94 : decode cX7_contradicts 94 = .ok (.if_icmp .eq 7, 3) := by decide +kernel
theorem dX7_contradicts_97 : decode cX7_contradicts 97 = .ok (.iconst 1, 1) := by decide +kernel
theorem dX7_contradicts_98 : decode cX7_contradicts 98 = .ok (.goto 4, 3) := by decide +kernel
theorem dX7_contradicts_101 : decode cX7_contradicts 101 = .ok (.iconst 0, 1) := by decide +kernel
theorem dX7_contradicts_102 : decode cX7_contradicts 102 = .ok (.istore 5, 2) := by decide +kernel
theorem dX7_contradicts_104 : decode cX7_contradicts 104 = .ok (.aload_n 0, 1) := by decide +kernel
theorem dX7_contradicts_105 : decode cX7_contradicts 105 = .ok (.getfield 47, 3) := by decide +kernel
theorem dX7_contradicts_108 : decode cX7_contradicts 108 = .ok (.iload 8, 2) := by decide +kernel
theorem dX7_contradicts_110 : decode cX7_contradicts 110 = .ok (.iaload, 1) := by decide +kernel
theorem dX7_contradicts_111 : decode cX7_contradicts 111 = .ok (.istore 6, 2) := by decide +kernel
theorem dX7_contradicts_113 : decode cX7_contradicts 113 = .ok (.iconst 1, 1) := by decide +kernel
theorem dX7_contradicts_114 : decode cX7_contradicts 114 = .ok (.istore 4, 2) := by decide +kernel
theorem dX7_contradicts_116 : decode cX7_contradicts 116 = .ok (.iinc 7 1, 3) := by decide +kernel
theorem dX7_contradicts_119 : decode cX7_contradicts 119 = .ok (.goto (-97), 3) := by decide +kernel
theorem dX7_contradicts_122 : decode cX7_contradicts 122 = .ok (.iload_n 2, 1) := by decide +kernel
theorem dX7_contradicts_123 : decode cX7_contradicts 123 = .ok (.iload 5, 2) := by decide +kernel
theorem dX7_contradicts_125 : decode cX7_contradicts 125 = .ok (.ifCond .eq 7, 3) := by decide +kernel
theorem dX7_contradicts_128 : decode cX7_contradicts 128 = .ok (.iconst 1, 1) := by decide +kernel
theorem dX7_contradicts_129 : decode cX7_contradicts 129 = .ok (.goto 4, 3) := by decide +kernel
theorem dX7_contradicts_132 : decode cX7_contradicts 132 = .ok (.iconst 0, 1) := by decide +kernel
theorem dX7_contradicts_133 : decode cX7_contradicts 133 = .ok (.iadd, 1) := by decide +kernel
theorem dX7_contradicts_134 : decode cX7_contradicts 134 = .ok (.istore_n 2, 1) := by decide +kernel
theorem dX7_contradicts_135 : decode cX7_contradicts 135 = .ok (.iinc 3 1, 3) := by decide +kernel
theorem dX7_contradicts_138 : decode cX7_contradicts 138 = .ok (.goto (-134), 3) := by decide +kernel
theorem dX7_contradicts_141 : decode cX7_contradicts 141 = .ok (.iload_n 2, 1) := by decide +kernel
theorem dX7_contradicts_142 : decode cX7_contradicts 142 = .ok (.ireturn, 1) := by decide +kernel
theorem dX7_contradictions_0 : decode cX7_contradictions 0 = .ok (.aload_n 0, 1) := by decide +kernel
theorem dX7_contradictions_1 : decode cX7_contradictions 1 = .ok (.iconst 0, 1) := by decide +kernel
theorem dX7_contradictions_2 : decode cX7_contradictions 2 = .ok (.putfield 74, 3) := by decide +kernel
theorem dX7_contradictions_5 : decode cX7_contradictions 5 = .ok (.aload_n 0, 1) := by decide +kernel
theorem dX7_contradictions_6 : decode cX7_contradictions 6 = .ok (.iload_n 1, 1) := by decide +kernel
theorem dX7_contradictions_7 : decode cX7_contradictions 7 = .ok (.invokevirtual 186, 3) := by decide +kernel
theorem dX7_contradictions_10 : decode cX7_contradictions 10 = .ok (.ireturn, 1) := by decide +kernel
theorem dX7_readAnew_0 : decode cX7_readAnew 0 = .ok (.aload_n 0, 1) := by decide +kernel
theorem dX7_readAnew_1 : decode cX7_readAnew 1 = .ok (.iconst 0, 1) := by decide +kernel
theorem dX7_readAnew_2 : decode cX7_readAnew 2 = .ok (.putfield 74, 3) := by decide +kernel
theorem dX7_readAnew_5 : decode cX7_readAnew 5 = .ok (.bipush 100, 2) := by decide +kernel
theorem dX7_readAnew_7 : decode cX7_readAnew 7 = .ok (.aload_n 0, 1) := by decide +kernel
theorem dX7_readAnew_8 : decode cX7_readAnew 8 = .ok (.iload_n 1, 1) := by decide +kernel
theorem dX7_readAnew_9 : decode cX7_readAnew 9 = .ok (.invokevirtual 182, 3) := by decide +kernel
theorem dX7_readAnew_12 : decode cX7_readAnew 12 = .ok (.imul, 1) := by decide +kernel
theorem dX7_readAnew_13 : decode cX7_readAnew 13 = .ok (.aload_n 0, 1) := by decide +kernel
theorem dX7_readAnew_14 : decode cX7_readAnew 14 = .ok (.iload_n 1, 1) := by decide +kernel
theorem dX7_readAnew_15 : decode cX7_readAnew 15 = .ok (.invokevirtual 186, 3) := by decide +kernel
theorem dX7_readAnew_18 : decode cX7_readAnew 18 = .ok (.iadd, 1) := by decide +kernel
theorem dX7_readAnew_19 : decode cX7_readAnew 19 = .ok (.ireturn, 1) := by decide +kernel
theorem dX7_synopsis_0 : decode cX7_synopsis 0 = .ok (.aload_n 0, 1) := by decide +kernel
theorem dX7_synopsis_1 : decode cX7_synopsis 1 = .ok (.iload_n 1, 1) := by decide +kernel
theorem dX7_synopsis_2 : decode cX7_synopsis 2 = .ok (.invokestatic 110, 3) := by decide +kernel
theorem dX7_synopsis_5 : decode cX7_synopsis 5 = .ok (.ifCond .eq 7, 3) := by decide +kernel
theorem dX7_synopsis_8 : decode cX7_synopsis 8 = .ok (.iconst 0, 1) := by decide +kernel
theorem dX7_synopsis_9 : decode cX7_synopsis 9 = .ok (.goto 4, 3) := by decide +kernel
theorem dX7_synopsis_12 : decode cX7_synopsis 12 = .ok (.iconst 1, 1) := by decide +kernel
theorem dX7_synopsis_13 : decode cX7_synopsis 13 = .ok (.invokevirtual 103, 3) := by decide +kernel
theorem dX7_synopsis_16 : decode cX7_synopsis 16 = .ok (.ifCond .ne 5, 3) := by decide +kernel
theorem dX7_synopsis_19 : decode cX7_synopsis 19 = .ok (.iconst 0, 1) := by decide +kernel
theorem dX7_synopsis_20 : decode cX7_synopsis 20 = .ok (.ireturn, 1) := by decide +kernel
theorem dX7_synopsis_21 : decode cX7_synopsis 21 = .ok (.iconst 0, 1) := by decide +kernel
theorem dX7_synopsis_22 : decode cX7_synopsis 22 = .ok (.istore_n 2, 1) := by decide +kernel
theorem dX7_synopsis_23 : decode cX7_synopsis 23 = .ok (.iconst 0, 1) := by decide +kernel
theorem dX7_synopsis_24 : decode cX7_synopsis 24 = .ok (.istore_n 3, 1) := by decide +kernel
theorem dX7_synopsis_25 : decode cX7_synopsis 25 = .ok (.iload_n 3, 1) := by decide +kernel
theorem dX7_synopsis_26 : decode cX7_synopsis 26 = .ok (.aload_n 0, 1) := by decide +kernel
theorem dX7_synopsis_27 : decode cX7_synopsis 27 = .ok (.getfield 78, 3) := by decide +kernel
theorem dX7_synopsis_30 : decode cX7_synopsis 30 = .ok (.if_icmp .ge 65, 3) := by decide +kernel
theorem dX7_synopsis_33 : decode cX7_synopsis 33 = .ok (.aload_n 0, 1) := by decide +kernel
theorem dX7_synopsis_34 : decode cX7_synopsis 34 = .ok (.getfield 16, 3) := by decide +kernel
theorem dX7_synopsis_37 : decode cX7_synopsis 37 = .ok (.iload_n 3, 1) := by decide +kernel
theorem dX7_synopsis_38 : decode cX7_synopsis 38 = .ok (.iaload, 1) := by decide +kernel
theorem dX7_synopsis_39 : decode cX7_synopsis 39 = .ok (.istore 4, 2) := by decide +kernel
theorem dX7_synopsis_41 : decode cX7_synopsis 41 = .ok (.iload 4, 2) := by decide +kernel
theorem dX7_synopsis_43 : decode cX7_synopsis 43 = .ok (.iconst (-1), 1) := by decide +kernel
theorem dX7_synopsis_44 : decode cX7_synopsis 44 = .ok (.if_icmp .eq 21, 3) := by decide +kernel
theorem dX7_synopsis_47 : decode cX7_synopsis 47 = .ok (.iload 4, 2) := by decide +kernel
theorem dX7_synopsis_49 : decode cX7_synopsis 49 = .ok (.iload_n 1, 1) := by decide +kernel
theorem dX7_synopsis_50 : decode cX7_synopsis 50 = .ok (.if_icmp .eq 15, 3) := by decide +kernel
theorem dX7_synopsis_53 : decode cX7_synopsis 53 = .ok (.aload_n 0, 1) := by decide +kernel
theorem dX7_synopsis_54 : decode cX7_synopsis 54 = .ok (.getfield 50, 3) := by decide +kernel
theorem dX7_synopsis_57 : decode cX7_synopsis 57 = .ok (.iload 4, 2) := by decide +kernel
theorem dX7_synopsis_59 : decode cX7_synopsis 59 = .ok (.iaload, 1) := by decide +kernel
theorem dX7_synopsis_60 : decode cX7_synopsis 60 = .ok (.istore 4, 2) := by decide +kernel
theorem dX7_synopsis_62 : decode cX7_synopsis 62 = .ok (.goto (-21), 3) := by decide +kernel
theorem dX7_synopsis_65 : decode cX7_synopsis 65 = .ok (.iload_n 2, 1) := by decide +kernel
theorem dX7_synopsis_66 : decode cX7_synopsis 66 = .ok (.aload_n 0, 1) := by decide +kernel
theorem dX7_synopsis_67 : decode cX7_synopsis 67 = .ok (.getfield 22, 3) := by decide +kernel
theorem dX7_synopsis_70 : decode cX7_synopsis 70 = .ok (.iload_n 3, 1) := by decide +kernel
theorem dX7_synopsis_71 : decode cX7_synopsis 71 = .ok (.iaload, 1) := by decide +kernel
theorem dX7_synopsis_72 : decode cX7_synopsis 72 = .ok (.iconst 3, 1) := by decide +kernel
theorem dX7_synopsis_73 : decode cX7_synopsis 73 = .ok (.if_icmp .ne 13, 3) := by decide +kernel
theorem dX7_synopsis_76 : decode cX7_synopsis 76 = .ok (.iload 4, 2) := by decide +kernel
theorem dX7_synopsis_78 : decode cX7_synopsis 78 = .ok (.iload_n 1, 1) := by decide +kernel
theorem dX7_synopsis_79 : decode cX7_synopsis 79 = .ok (.if_icmp .ne 7, 3) := by decide +kernel
theorem dX7_synopsis_82 : decode cX7_synopsis 82 = .ok (.iconst 1, 1) := by decide +kernel
theorem dX7_synopsis_83 : decode cX7_synopsis 83 = .ok (.goto 4, 3) := by decide +kernel
theorem dX7_synopsis_86 : decode cX7_synopsis 86 = .ok (.iconst 0, 1) := by decide +kernel
theorem dX7_synopsis_87 : decode cX7_synopsis 87 = .ok (.iadd, 1) := by decide +kernel
theorem dX7_synopsis_88 : decode cX7_synopsis 88 = .ok (.istore_n 2, 1) := by decide +kernel
theorem dX7_synopsis_89 : decode cX7_synopsis 89 = .ok (.iinc 3 1, 3) := by decide +kernel
theorem dX7_synopsis_92 : decode cX7_synopsis 92 = .ok (.goto (-67), 3) := by decide +kernel
theorem dX7_synopsis_95 : decode cX7_synopsis 95 = .ok (.iload_n 2, 1) := by decide +kernel
theorem dX7_synopsis_96 : decode cX7_synopsis 96 = .ok (.ireturn, 1) := by decide +kernel
end
section
/-! the store: one function by family, owner's number, place; the world: 606 cells behind the law's entry -/
abbrev gSt : Type := Nat → Nat → Nat → Int32
abbrev gE : Type := va_G × (Nat → ClassId) × (Nat → Nat) × (Nat → Nat) × Nat
def eD (E : gE) : va_G := E.1
def eT (E : gE) : Nat → ClassId := E.2.1
def eF (E : gE) : Nat → Nat := E.2.2.1
def eS (E : gE) : Nat → Nat := E.2.2.2.1
def eB (E : gE) : Nat := E.2.2.2.2
def gU (σ : gSt) (F i k : Nat) (x : Int32) : gSt := fun F' i' k' => if F' = F ∧ i' = i ∧ k' = k then x else σ F' i' k'
def gR (σ : gSt) (F i : Nat) (f : Nat → Int32) : gSt := fun F' i' k' => if F' = F ∧ i' = i then f k' else σ F' i' k'
theorem gU_R (σ : gSt) (F i k : Nat) (x : Int32) : gU σ F i k x = gR σ F i (fun k' => if k' = k then x else σ F i k') := by
  funext F' i' k'
  by_cases h : F' = F ∧ i' = i
  · obtain ⟨rfl, rfl⟩ := h
    simp [gU, gR]
  · have h2 : ¬ (F' = F ∧ i' = i ∧ k' = k) := fun q => h ⟨q.1, q.2.1⟩
    simp only [gU, gR, if_neg h, if_neg h2]
/-- which families are arrays of ints, booleans, chars; their lengths; their types: 0 char, 1 int, 2 boolean -/
def isArr (F : Nat) : Bool := Nat.beq F 2 || Nat.beq F 3 || Nat.beq F 30 || Nat.beq F 31 || Nat.beq F 60 || Nat.beq F 61 || Nat.beq F 154 || Nat.beq F 155 || (Nat.ble 181 F && Nat.ble F 182) || (Nat.ble 184 F && Nat.ble F 196) || (Nat.ble 198 F && Nat.ble F 199) || (Nat.ble 202 F && Nat.ble F 205)
def tA (F : Nat) : Nat := cond (Nat.beq F 60 || Nat.beq F 61) 0 (cond (Nat.beq F 2 || Nat.beq F 31 || Nat.beq F 190 || Nat.beq F 193 || Nat.beq F 203 || Nat.beq F 204) 2 1)
def lA (F : Nat) : Nat := cond (Nat.beq F 60 || Nat.beq F 61 || Nat.beq F 2 || Nat.beq F 3 || Nat.beq F 155 || Nat.beq F 196) 8 (cond (Nat.beq F 30) 24 (cond (Nat.beq F 31 || Nat.beq F 202 || Nat.beq F 203 || Nat.beq F 205) 6 (cond (Nat.beq F 154 || Nat.beq F 195) 10 (cond (Nat.beq F 181) 1000 (cond (Nat.beq F 182) 125 (cond (Nat.beq F 192) 96 (cond (Nat.beq F 193 || Nat.beq F 194) 192 (cond (Nat.beq F 198 || Nat.beq F 199) 4 (cond (Nat.beq F 204) 36 24)))))))))
/-- the cells' numbers -/
def oArt (i : Nat) : Nat := 9 + 23 * i
def oRef (r : Nat) : Nat := 16 + 23 * (r / 4) + 4 * (r % 4)
def oHw (h : Nat) : Nat := if h = 120 then 1 else if h < 24 then 10 + 23 * h else oRef (h - 24) + 1
def oVol (v : Nat) : Nat := 561 + v
def oCon (c : Nat) : Nat := 565 + 3 * c
def oRa (i : Nat) : Nat := 13 + 23 * i
def oA (F i : Nat) : Nat := cond (Nat.beq F 60) (oHw i + 1) (cond (Nat.beq F 61) (oHw i + 2) (cond (Nat.beq F 2) (oArt i + 5) (cond (Nat.beq F 3) (oArt i + 6) (cond (Nat.beq F 30) (oCon i + 1) (cond (Nat.beq F 31) (oCon i + 2) (cond (Nat.beq F 154) 7 (cond (Nat.beq F 155) 8 (cond (Nat.ble F 182) (403 + F) (cond (Nat.ble F 196) (402 + F) (cond (Nat.ble F 199) (401 + F) (399 + F)))))))))))
/-- a cell's kind, family, owner's number -/
def dec (o : Nat) : Nat × Nat × Nat :=
  if o = 0 then (5, 0, 0) else if o = 1 then (2, 0, 120) else if o = 2 then (10, 60, 120) else if o = 3 then (10, 61, 120) else if o = 4 then (17, 0, 0) else if o = 5 then (18, 0, 0) else if o = 6 then (19, 0, 0) else if o = 7 then (10, 154, 0) else if o = 8 then (10, 155, 0) else
  if o < 561 then (if (o - 9) % 23 = 0 then (0, 0, (o - 9) / 23) else if (o - 9) % 23 = 1 then (2, 0, (o - 9) / 23) else if (o - 9) % 23 = 2 then (10, 60, (o - 9) / 23) else if (o - 9) % 23 = 3 then (10, 61, (o - 9) / 23) else if (o - 9) % 23 = 4 then (12, 0, (o - 9) / 23) else if (o - 9) % 23 = 5 then (10, 2, (o - 9) / 23) else if (o - 9) % 23 = 6 then (10, 3, (o - 9) / 23) else
    if ((o - 9) % 23 - 7) % 4 = 0 then (3, 0, 4 * ((o - 9) / 23) + ((o - 9) % 23 - 7) / 4) else if ((o - 9) % 23 - 7) % 4 = 1 then (2, 0, 24 + (4 * ((o - 9) / 23) + ((o - 9) % 23 - 7) / 4)) else if ((o - 9) % 23 - 7) % 4 = 2 then (10, 60, 24 + (4 * ((o - 9) / 23) + ((o - 9) % 23 - 7) / 4)) else (10, 61, 24 + (4 * ((o - 9) / 23) + ((o - 9) % 23 - 7) / 4))) else
  if o < 565 then (4, 0, o - 561) else if o < 583 then (if (o - 565) % 3 = 0 then (1, 0, (o - 565) / 3) else if (o - 565) % 3 = 1 then (10, 30, (o - 565) / 3) else (10, 31, (o - 565) / 3)) else
  if o = 583 then (6, 0, 0) else if o < 586 then (10, o - 403, 0) else if o < 599 then (10, o - 402, 0) else if o < 601 then (10, o - 401, 0) else if o < 605 then (10, o - 399, 0) else (23, 0, 0)
def oEnc (kd F i : Nat) : Nat := match kd with
  | 0 => oArt i
  | 1 => oCon i
  | 2 => oHw i
  | 3 => oRef i
  | 4 => oVol i
  | 5 => 0
  | 6 => 583
  | 12 => oRa i
  | 17 => 4
  | 18 => 5
  | 19 => 6
  | 23 => 605
  | _ => oA F i
theorem dec_ok : ∀ o, o < 606 → (oEnc (dec o).1 (dec o).2.1 (dec o).2.2 = o ∧ ((dec o).1 < 7 ∨ ((dec o).1 = 10 ∧ isArr (dec o).2.1 = true) ∨ (dec o).1 = 12 ∨ (dec o).1 = 17 ∨ (dec o).1 = 18 ∨ (dec o).1 = 19 ∨ (dec o).1 = 23)) := by decide +kernel
theorem dec_art : ∀ i, i < 24 → (dec (oArt i) = (0, 0, i) ∧ oArt i < 606) := by decide +kernel
theorem dec_con : ∀ i, i < 6 → (dec (oCon i) = (1, 0, i) ∧ oCon i < 606) := by decide +kernel
theorem dec_hw : ∀ i, i < 121 → (dec (oHw i) = (2, 0, i) ∧ oHw i < 606) := by decide +kernel
theorem dec_ref : ∀ i, i < 96 → (dec (oRef i) = (3, 0, i) ∧ oRef i < 606) := by decide +kernel
theorem dec_vol : ∀ i, i < 4 → (dec (oVol i) = (4, 0, i) ∧ oVol i < 606) := by decide +kernel
theorem dec_ra : ∀ i, i < 24 → (dec (oRa i) = (12, 0, i) ∧ oRa i < 606) := by decide +kernel
/-- how many owners a family has -/
def nA (F : Nat) : Nat := cond (Nat.beq F 60 || Nat.beq F 61) 121 (cond (Nat.beq F 2 || Nat.beq F 3) 24 (cond (Nat.beq F 30 || Nat.beq F 31) 6 1))
theorem dec_arr : ∀ F, F < 206 → ∀ i, i < nA F → isArr F = true → (dec (oA F i) = (10, F, i) ∧ oA F i < 606) := by decide +kernel
/-- the cell that holds a place of the store -/
def oOf (F i : Nat) : Nat := cond (isArr F) (oA F i) (cond (Nat.ble F 11) (oArt i) (cond (Nat.ble F 35) (oCon i) (cond (Nat.ble F 63) (oHw i) (cond (Nat.ble F 91) (oRef i) (cond (Nat.ble F 121) (oVol i) (cond (Nat.ble F 161) 0 583))))))
def cellK (E : gE) (w : Nat → Int64) (σ : gSt) (kd F i : Nat) : va_E := match kd with
  | 0 => .inr (0, [.ref (eB E + oHw i), .ref (eB E + oRa i), .ref (eB E + oA 2 i), .ref (eB E + oA 3 i), .int (σ 4 i 0), .int (σ 5 i 0), .int (σ 6 i 0), .int (σ 7 i 0), .int (σ 8 i 0), .int (σ 9 i 0), .int (σ 10 i 0), .int (σ 11 i 0)])
  | 1 => .inr (1, [.ref (eB E + oA 30 i), .ref (eB E + oA 31 i), .int (σ 32 i 0), .int (σ 33 i 0), .int (σ 34 i 0), .int (σ 35 i 0)])
  | 2 => .inr (2, [.ref (eB E + oA 60 i), .ref (eB E + oA 61 i), .int (σ 62 i 0), .int (σ 63 i 0)])
  | 3 => .inr (3, [.ref (eB E + oHw (24 + i)), .ref (eF E (σ 91 i 0).toNatClampNeg)])
  | 4 => .inr (4, [.int (σ 120 i 0), .int (σ 121 i 0)])
  | 5 => .inr (5, [.ref (eB E + oHw 120), .ref (eB E + 4), .ref (eB E + 5), .ref (eB E + 6), .ref (eB E + oA 154 0), .ref (eB E + oA 155 0), .int (σ 156 0 0), .int (σ 157 0 0), .int (σ 158 0 0), .int (σ 159 0 0), .int (σ 160 0 0), .int (σ 161 0 0)])
  | 6 => .inr (6, [.int (σ 180 0 0), .ref (eB E + oA 181 0), .ref (eB E + oA 182 0), .int (σ 183 0 0), .ref (eB E + oA 184 0), .ref (eB E + oA 185 0), .ref (eB E + oA 186 0), .ref (eB E + oA 187 0), .ref (eB E + oA 188 0), .ref (eB E + oA 189 0), .ref (eB E + oA 190 0), .ref (eB E + oA 191 0), .ref (eB E + oA 192 0), .ref (eB E + oA 193 0), .ref (eB E + oA 194 0), .ref (eB E + oA 195 0), .ref (eB E + oA 196 0), .int (σ 197 0 0), .ref (eB E + oA 198 0), .ref (eB E + oA 199 0), .int (σ 200 0 0), .int (σ 201 0 0), .ref (eB E + oA 202 0), .ref (eB E + oA 203 0), .ref (eB E + oA 204 0), .ref (eB E + oA 205 0), .int (σ 206 0 0), .int (σ 207 0 0), .int (σ 208 0 0), .int (σ 209 0 0)])
  | 12 => .inl (eT E 5, 4, .inr (.inr (.inr (.inr (fun k => some (eB E + oRef (4 * i + k)))))))
  | 17 => .inl (eT E 3, 24, .inr (.inr (.inr (.inr (fun k => some (eB E + oArt k))))))
  | 18 => .inl (eT E 6, 4, .inr (.inr (.inr (.inr (fun k => some (eB E + oVol k))))))
  | 19 => .inl (eT E 4, 6, .inr (.inr (.inr (.inr (fun k => some (eB E + oCon k))))))
  | 23 => .inl (eT E 7, 1, .inr (.inl w))
  | _ => .inl (eT E (tA F), lA F, .inl (fun k => σ F i k))
def gC (E : gE) (w : Nat → Int64) (σ : gSt) (o : Nat) : va_E := cellK E w σ (dec o).1 (dec o).2.1 (dec o).2.2
def gW (E : gE) (w : Nat → Int64) (σ : gSt) : va_W := (List.range 606).map (fun o => (eB E + o, gC E w σ o))
theorem gW_at {E : gE} {w : Nat → Int64} {σ : gSt} {o : Nat} (h : o < 606) : (gW E w σ)[o]? = some (eB E + o, gC E w σ o) := by
  simp [gW, h]
theorem gW_inv {E : gE} {w : Nat → Int64} {σ : gSt} {o : Nat} {q : Nat × va_E} (h : (gW E w σ)[o]? = some q) : o < 606 ∧ q = (eB E + o, gC E w σ o) := by
  have h1 : o < 606 := by
    have := (List.getElem?_eq_some_iff.mp h).1
    simpa [gW] using this
  rw [gW_at h1] at h
  exact ⟨h1, (Option.some.inj h).symm⟩
theorem gD {E : gE} {w : Nat → Int64} {σ : gSt} : va_D (fun q => eB E ≤ q) (gW E w σ) := by
  refine ⟨fun i j p q hi hj hpq => ?_, fun k q hk => ?_⟩
  · obtain ⟨-, rfl⟩ := gW_inv hi
    obtain ⟨-, rfl⟩ := gW_inv hj
    have : eB E + i = eB E + j := hpq
    omega
  · obtain ⟨-, rfl⟩ := gW_inv hk
    exact Nat.le_add_right _ _
theorem gW_set {E : gE} {w : Nat → Int64} {σ σ' : gSt} {o : Nat} {v : va_E} (h1 : gC E w σ' o = v) (h2 : ∀ o', o' < 606 → o' ≠ o → gC E w σ' o' = gC E w σ o') : (gW E w σ).set o (eB E + o, v) = gW E w σ' := by
  apply List.ext_getElem?
  intro k
  rw [List.getElem?_set]
  by_cases hk : k < 606
  · rw [gW_at hk, gW_at hk]
    by_cases e : o = k
    · subst e
      simp [gW, hk, h1]
    · rw [if_neg e, h2 k hk (fun z => e z.symm)]
  · have e1 : (gW E w σ')[k]? = none := by simp [gW]; omega
    have e2 : (gW E w σ)[k]? = none := by simp [gW]; omega
    have e3 : ¬ k < (gW E w σ).length := by simpa [gW] using hk
    rw [e1, e2]
    by_cases e : o = k
    · subst e
      simp [e3]
    · simp [e]
theorem gR_ne {σ : gSt} {F i F' i' : Nat} {f : Nat → Int32} (h : ¬ (F' = F ∧ i' = i)) (k' : Nat) : gR σ F i f F' i' k' = σ F' i' k' := by
  simp only [gR, if_neg h]
theorem gC_ne {E : gE} {w : Nat → Int64} {σ : gSt} {F i : Nat} {f : Nat → Int32} {o' : Nat} (ho : o' < 606) (hn : o' ≠ oOf F i) : gC E w (gR σ F i f) o' = gC E w σ o' := by
  obtain ⟨h1, h2⟩ := dec_ok o' ho
  unfold gC
  generalize dec o' = d at h1 h2
  obtain ⟨kd, F', i'⟩ := d
  dsimp only at h1 h2 ⊢
  have key : ∀ G j, oOf G j = o' → ¬ (G = F ∧ j = i) := fun G j hG hq => by
    obtain ⟨rfl, rfl⟩ := hq
    exact hn hG.symm
  clear hn ho
  rcases h2 with h2 | ⟨rfl, h2⟩ | rfl | rfl | rfl | rfl | rfl
  · have h3 : kd = 0 ∨ kd = 1 ∨ kd = 2 ∨ kd = 3 ∨ kd = 4 ∨ kd = 5 ∨ kd = 6 := by omega
    rcases h3 with rfl | rfl | rfl | rfl | rfl | rfl | rfl
    · have e : oArt i' = o' := h1
      simp only [cellK, gR_ne (key 4 i' e), gR_ne (key 5 i' e), gR_ne (key 6 i' e), gR_ne (key 7 i' e), gR_ne (key 8 i' e), gR_ne (key 9 i' e), gR_ne (key 10 i' e), gR_ne (key 11 i' e)]
    · have e : oCon i' = o' := h1
      simp only [cellK, gR_ne (key 32 i' e), gR_ne (key 33 i' e), gR_ne (key 34 i' e), gR_ne (key 35 i' e)]
    · have e : oHw i' = o' := h1
      simp only [cellK, gR_ne (key 62 i' e), gR_ne (key 63 i' e)]
    · have e : oRef i' = o' := h1
      simp only [cellK, gR_ne (key 91 i' e)]
    · have e : oVol i' = o' := h1
      simp only [cellK, gR_ne (key 120 i' e), gR_ne (key 121 i' e)]
    · have e : 0 = o' := h1
      simp only [cellK, gR_ne (key 156 0 e), gR_ne (key 157 0 e), gR_ne (key 158 0 e), gR_ne (key 159 0 e), gR_ne (key 160 0 e), gR_ne (key 161 0 e)]
    · have e : 583 = o' := h1
      simp only [cellK, gR_ne (key 180 0 e), gR_ne (key 183 0 e), gR_ne (key 197 0 e), gR_ne (key 200 0 e), gR_ne (key 201 0 e), gR_ne (key 206 0 e), gR_ne (key 207 0 e), gR_ne (key 208 0 e), gR_ne (key 209 0 e)]
  · have e : oA F' i' = o' := h1
    have h3 := key F' i' (by rw [← e]; simp only [oOf, h2, cond_true])
    simp only [cellK, gR_ne h3]
  all_goals simp only [cellK]
end
section
/-! what every method of the claim needs of a launch: words of the tables, nest words, texts, statics -/
def WALL : List Cond := lw_tbl.filter goodWord
theorem wall {w : Cond} (h : w ∈ lw_tbl) (g : goodWord w = true) : w ∈ WALL := List.mem_filter.mpr ⟨h, g⟩
def NWL : List Cond := [.fieldLinkNest "CircleOfLeaves" 58 "CircleOfLeaves$Headword" "signCount" "I" "CircleOfLeaves", .fieldLinkNest "CircleOfLeaves" 128 "CircleOfLeaves$Reference" "headword" "LCircleOfLeaves$Headword;" "CircleOfLeaves", .fieldLinkNest "CircleOfLeaves$Article" 66 "CircleOfLeaves$Reference" "fate" "LCircleOfLeaves$Fate;" "CircleOfLeaves", .fieldLinkNest "CircleOfLeaves" 354 "CircleOfLeaves$Reference" "fate" "LCircleOfLeaves$Fate;" "CircleOfLeaves", .fieldLinkNest "CircleOfLeaves" 104 "CircleOfLeaves$Article" "headword" "LCircleOfLeaves$Headword;" "CircleOfLeaves", .fieldLinkNest "CircleOfLeaves" 124 "CircleOfLeaves$Article" "references" "[LCircleOfLeaves$Reference;" "CircleOfLeaves", .fieldLinkNest "CircleOfLeaves" 139 "CircleOfLeaves$Article" "usesFact" "[Z" "CircleOfLeaves", .fieldLinkNest "CircleOfLeaves" 377 "CircleOfLeaves$Article" "toldValues" "[I" "CircleOfLeaves", .fieldLinkNest "CircleOfLeaves" 119 "CircleOfLeaves$Article" "referenceCount" "I" "CircleOfLeaves", .fieldLinkNest "CircleOfLeaves" 98 "CircleOfLeaves$Article" "subject" "I" "CircleOfLeaves", .fieldLinkNest "CircleOfLeaves" 101 "CircleOfLeaves$Article" "worth" "I" "CircleOfLeaves", .fieldLinkNest "CircleOfLeaves" 195 "CircleOfLeaves$Article" "contributor" "I" "CircleOfLeaves", .fieldLinkNest "CircleOfLeaves" 213 "CircleOfLeaves$Article" "endMonth" "I" "CircleOfLeaves", .fieldLinkNest "CircleOfLeaves" 341 "CircleOfLeaves$Article" "hasText" "Z" "CircleOfLeaves", .fieldLinkNest "CircleOfLeaves" 145 "CircleOfLeaves$Article" "isForbidden" "Z" "CircleOfLeaves", .fieldLinkNest "CircleOfLeaves" 116 "CircleOfLeaves$Article" "isPrinted" "Z" "CircleOfLeaves", .fieldLinkNest "CircleOfLeaves" 153 "CircleOfLeaves$Volume" "lastLetter" "C" "CircleOfLeaves", .fieldLinkNest "CircleOfLeaves" 161 "CircleOfLeaves$Volume" "budget" "I" "CircleOfLeaves", .fieldLinkNest "CircleOfLeaves" 210 "CircleOfLeaves$Contributor" "toWrite" "[I" "CircleOfLeaves", .fieldLinkNest "CircleOfLeaves" 179 "CircleOfLeaves$Contributor" "hasQuarrelledWith" "[Z" "CircleOfLeaves", .fieldLinkNest "CircleOfLeaves" 201 "CircleOfLeaves$Contributor" "toWriteCount" "I" "CircleOfLeaves", .fieldLinkNest "CircleOfLeaves" 171 "CircleOfLeaves$Contributor" "pace" "I" "CircleOfLeaves", .fieldLinkNest "CircleOfLeaves" 276 "CircleOfLeaves$Contributor" "errataOwned" "I" "CircleOfLeaves", .fieldLinkNest "CircleOfLeaves" 186 "CircleOfLeaves$Contributor" "isDead" "Z" "CircleOfLeaves", .methodLinkNest "CircleOfLeaves" 9 ⟨"CircleOfLeaves$Headword", "<init>", "()V"⟩ "CircleOfLeaves", .methodLinkNest "CircleOfLeaves" 41 ⟨"CircleOfLeaves$Article", "<init>", "()V"⟩ "CircleOfLeaves", .methodLinkNest "CircleOfLeaves$Article" 11 ⟨"CircleOfLeaves$Headword", "<init>", "()V"⟩ "CircleOfLeaves", .methodLinkNest "CircleOfLeaves$Article" 39 ⟨"CircleOfLeaves$Reference", "<init>", "()V"⟩ "CircleOfLeaves", .methodLinkNest "CircleOfLeaves$Reference" 9 ⟨"CircleOfLeaves$Headword", "<init>", "()V"⟩ "CircleOfLeaves", .methodLinkNest "CircleOfLeaves" 42 ⟨"CircleOfLeaves$Volume", "<init>", "()V"⟩ "CircleOfLeaves", .methodLinkNest "CircleOfLeaves" 43 ⟨"CircleOfLeaves$Contributor", "<init>", "()V"⟩ "CircleOfLeaves", .methodLinkNest "CircleOfLeaves" 71 ⟨"CircleOfLeaves$Headword", "clear", "()V"⟩ "CircleOfLeaves", .methodLinkNest "CircleOfLeaves" 272 ⟨"CircleOfLeaves$Article", "countReferences", "(LCircleOfLeaves$Fate;)I"⟩ "CircleOfLeaves", .methodLinkNest "CircleOfLeaves" 279 ⟨"CircleOfLeaves$Article", "isReadIn", "(Z)Z"⟩ "CircleOfLeaves", .methodLinkNest "CircleOfLeaves" 319 ⟨"CircleOfLeaves$Headword", "firstLetter", "()C"⟩ "CircleOfLeaves", .methodLinkNest "CircleOfLeaves" 312 ⟨"CircleOfLeaves$Headword", "compareBy", "(ZLCircleOfLeaves$Headword;)I"⟩ "CircleOfLeaves", .methodLinkNest "CircleOfLeaves" 67 ⟨"CircleOfLeaves$Headword", "add", "(C)V"⟩ "CircleOfLeaves", .methodLinkNest "CircleOfLeaves$Headword" 22 ⟨"CircleOfLeaves", "isGap", "(C)Z"⟩ "CircleOfLeaves", .methodLinkNest "CircleOfLeaves$Headword" 26 ⟨"CircleOfLeaves", "isLetter", "(C)Z"⟩ "CircleOfLeaves", .methodLinkNest "CircleOfLeaves" 92 ⟨"CircleOfLeaves$Headword", "hasLetter", "()Z"⟩ "CircleOfLeaves", .methodLinkNest "CircleOfLeaves" 107 ⟨"CircleOfLeaves$Headword", "take", "(LCircleOfLeaves$Headword;)V"⟩ "CircleOfLeaves", .methodLinkNest "CircleOfLeaves" 134 ⟨"CircleOfLeaves$Article", "isBlind", "()Z"⟩ "CircleOfLeaves", .methodLinkNest "CircleOfLeaves" 198 ⟨"CircleOfLeaves$Contributor", "addToWrite", "(I)V"⟩ "CircleOfLeaves", .methodLinkNest "CircleOfLeaves" 338 ⟨"CircleOfLeaves$Contributor", "monthsFor", "(I)I"⟩ "CircleOfLeaves", .methodLinkNest "CircleOfLeaves" 344 ⟨"CircleOfLeaves$Contributor", "removeFirst", "()V"⟩ "CircleOfLeaves", .methodLinkNest "CircleOfLeaves" 347 ⟨"CircleOfLeaves$Article", "isReady", "()Z"⟩ "CircleOfLeaves", .methodLinkNest "CircleOfLeaves" 350 ⟨"CircleOfLeaves$Article", "putToPress", "([I)V"⟩ "CircleOfLeaves", .methodLinkNest "CircleOfLeaves" 256 ⟨"CircleOfLeaves$Article", "state", "()I"⟩ "CircleOfLeaves"]
def gTxt : List (Nat × String) := [(53, "no letter, blank or hyphen"), (64, "the draft is full"), (77, "a volume is printed"), (87, "worth out of range"), (96, "no more articles, or no letter in the draft"), (111, "not below the subject"), (122, "printed, full, or no letter in the draft"), (137, "printed, or blind"), (143, "printed"), (148, "no letter, or columns out of range"), (157, "not behind the volume ahead"), (159, "no more volumes"), (164, "pace out of range"), (169, "no more contributors"), (177, "nobody quarrels alone"), (193, "it cannot be given to that one"), (208, "dead"), (216, "months out of range"), (228, "printed, or one ahead is not"), (237, "no volume is printed"), (248, "no such place"), (254, "no such question"), (302, "no such article"), (304, "no such volume"), (306, "no such contributor"), (308, "no such subject"), (310, "no such fact")]
def gUp : List String := ["java/lang/RuntimeException", "java/lang/Exception"]
def gIAE : String := "java/lang/IllegalArgumentException"
def gISE : String := "java/lang/IllegalStateException"
def gIOE : String := "java/lang/IndexOutOfBoundsException"
def XWL : List Cond := (vx_atS RX6 55 gIAE gUp ++ vx_atS RX6 66 gISE gUp ++ vx_atS RX6 250 gIOE gUp).filter (fun w => !goodWord w)
def nestW : Cond → Bool
  | .fieldLinkNest _ _ _ _ _ _ => true
  | .methodLinkNest _ _ _ _ => true
  | _ => false
theorem NWL_ok : ∀ w ∈ NWL, nestW w = true := by decide +kernel
theorem NWL_tb : ∀ w ∈ NWL, w ∈ lw_tbl := by decide +kernel
theorem XWL_ok : ∀ w ∈ XWL, (w.onTables && w.keepsFace) = true := by decide +kernel
theorem nestW_ot {w : Cond} (h : nestW w = true) : w.onTables = true := by
  cases w <;> first | rfl | (exact absurd h (by decide)) | (simp [nestW] at h)
theorem nestW_warm {w : Cond} (h : nestW w = true) {s U : State} (hW : s.WarmedH U.vm) (hZ : va_Nw w s) : va_Nw w U := by
  cases w <;> first | exact va_Nw.warmF hW hZ | exact va_Nw.warmM hW hZ | (simp [nestW] at h)
theorem faceW_warm {w : Cond} (h : (w.onTables && w.keepsFace) = true) {s U : State} (hW : s.WarmedH U.vm) (hZ : va_Nw w s) : va_Nw w U := by
  simp only [Bool.and_eq_true] at h
  have h1 : w.before #[] (s.setVm U.vm) = true := Cond.before_shiftedFace (State.Shifted.of_warmed hW) _ h.2 hZ
  exact va_tabs h.1 (rfl : (s.setVm U.vm).vm = U.vm) h1
def gTys (E : gE) : List (ClassId × FieldType) := [(eT E 0, .char), (eT E 1, .int), (eT E 2, .boolean), (eT E 3, .object RX0), (eT E 4, .object RX1), (eT E 5, .object RX4), (eT E 6, .object RX5), (eT E 7, .long)]
def gFates : List String := ["UNSEEN", "STANDING", "PROMISED", "STRUCK", "TOLD"]
def gFd : String := "LCircleOfLeaves$Fate;"
/-- the knowledge: classes, nest words, texts, statics (all below the claim's own cells) -/
def gK (E : gE) (U : State) : Prop := va_K (eD E) vwCl (gTys E) U ∧ (∀ w ∈ NWL, va_Nw w U) ∧ (∀ w ∈ XWL, va_Nw w U) ∧ (∀ q ∈ gTxt, vk_R RX6 q.1 q.2 (eS E q.1) U) ∧
  vx_Zq Bundle.tN "UNASSIGNED_STACK" Bundle.steD (fun q => eB E ≤ q) U U.heap ∧ vx_Zq Bundle.tN "SUPPRESSED_SENTINEL" Bundle.listD (fun q => eB E ≤ q) U U.heap ∧
  (∀ (k : Nat) (n : String), gFates[k]? = some n → va_Z RX2 n gFd (.ref (eF E k)) (fun q => eB E ≤ q) U U.heap) ∧ (∀ i j, i < 5 → j < 5 → eF E i = eF E j → i = j) ∧ eB E ≤ U.heap.size
theorem gK.warm {E : gE} {s U : State} {H : Heap} {locs : List Loc} (h : gK E s) (hW : s.WarmedH U.vm) (hU : U.heap = H) (hS : va_S (fun q => eB E ≤ q) s.heap H locs) : gK E U := by
  obtain ⟨h1, h2, h3, h4, h5, h6, h7, h8, h9⟩ := h
  have hk : ∀ a : Nat, a < s.heap.size → ¬ eB E ≤ a → U.heap[a]? = s.heap[a]? := fun a ha hn => by rw [hU]; exact hS.2.1 a ha hn
  refine ⟨va_K.moved hW.alike h1, fun w hw => nestW_warm (NWL_ok w hw) hW (h2 w hw), fun w hw => faceW_warm (XWL_ok w hw) hW (h3 w hw), fun q hq => vk_R.warm hW (h4 q hq), ?_, ?_, fun k n hn => ?_, h8, ?_⟩
  · exact (vx_Zq.moved hW.alike h5).kept hk
  · exact (vx_Zq.moved hW.alike h6).kept hk
  · exact (va_Z.moved hW.alike (h7 k n hn)).kept hk
  · rw [hU]; exact Nat.le_trans h9 hS.1
theorem gK.same {E : gE} {s U : State} (h : gK E s) (hv : U.vm = s.vm) (hU : U.heap = s.heap) : gK E U := by
  have hA : s.vm.Alike U.vm := by rw [hv]; exact Vm.Alike.refl _
  obtain ⟨h1, h2, h3, h4, h5, h6, h7, h8, h9⟩ := h
  have hk : ∀ a : Nat, a < s.heap.size → ¬ eB E ≤ a → U.heap[a]? = s.heap[a]? := fun a ha hn => by rw [hU]
  refine ⟨va_K.moved hA h1, fun w hw => va_Nw.same (nestW_ot (NWL_ok w hw)) hv.symm (h2 w hw), fun w hw => va_Nw.same (by have := XWL_ok w hw; simp only [Bool.and_eq_true] at this; exact this.1) hv.symm (h3 w hw), fun q hq => vk_R.same hv (h4 q hq), ?_, ?_, fun k n hn => ?_, h8, ?_⟩
  · exact (vx_Zq.moved hA h5).kept hk
  · exact (vx_Zq.moved hA h6).kept hk
  · exact (va_Z.moved hA (h7 k n hn)).kept hk
  · rw [hU]; exact h9
theorem inW0 : ∀ w ∈ u_ws RX0 TX0 12, w ∈ WALL := by decide +kernel
theorem inW1 : ∀ w ∈ u_ws RX1 TX1 6, w ∈ WALL := by decide +kernel
theorem inW3 : ∀ w ∈ u_ws RX3 TX3 4, w ∈ WALL := by decide +kernel
theorem inW4 : ∀ w ∈ u_ws RX4 TX4 2, w ∈ WALL := by decide +kernel
theorem inW5 : ∀ w ∈ u_ws RX5 TX5 2, w ∈ WALL := by decide +kernel
theorem inW6 : ∀ w ∈ u_ws RX6 TX6 12, w ∈ WALL := by decide +kernel
theorem inW7 : ∀ w ∈ u_ws RX7 TX7 30, w ∈ WALL := by decide +kernel
end
section
/-! the judgement over the store: G .. σ pc locals stack; a row an instruction -/
def lkp : List (Nat × Value) → Nat → Option Value
  | [], _ => none
  | q :: r, i => cond (Nat.beq q.1 i) (some q.2) (lkp r i)
theorem lkp_mem {v : Value} {i : Nat} : ∀ {l : List (Nat × Value)}, lkp l i = some v → (i, v) ∈ l
  | [], h => by cases h
  | q :: r, h => by
    unfold lkp at h
    cases hb : Nat.beq q.1 i with
    | true =>
      rw [hb] at h
      have h1 : q.2 = v := Option.some.inj h
      have h2 : q.1 = i := Nat.eq_of_beq_eq_true hb
      have h3 : q = (i, v) := Prod.ext h2 h1
      rw [← h3]
      exact List.mem_cons_self
    | false =>
      rw [hb] at h
      exact List.mem_cons_of_mem _ (lkp_mem h)
theorem lkp_at {ls : Array Slot} {nL : Nat} {l : List (Nat × Value)} {i : Nat} {v : Value} (h : lv_has ls nL l) (hk : lkp l i = some v) : ls[i]? = some (.val v) := h.2.2 (i, v) (lkp_mem hk)
/-- guards and calls of the written functions -/
def gd {α : Type} (b : Bool) (k : Option α) : Option α := cond b k none
theorem gd_ok {α : Type} {b : Bool} {k : Option α} {r : α} (h : gd b k = some r) : b = true ∧ k = some r := by
  cases b with
  | true => exact ⟨rfl, h⟩
  | false => cases h
def bd {α : Type} (m : Option (Int32 × gSt)) (k : Int32 → gSt → Option α) : Option α := match m with
  | none => none
  | some r => k r.1 r.2
theorem bd_ok {α : Type} {m : Option (Int32 × gSt)} {k : Int32 → gSt → Option α} {r : α} (h : bd m k = some r) : ∃ (v : Int32) (σ : gSt), m = some (v, σ) ∧ k v σ = some r := by
  cases m with
  | none => cases h
  | some q => exact ⟨q.1, q.2, rfl, h⟩
def inb (x : Int32) (n : Nat) : Bool := decide (0 ≤ x) && Nat.blt x.toNatClampNeg n
theorem inb_in {x : Int32} {n : Nat} (h : inb x n = true) : vp_in x n := by
  simp only [inb, Bool.and_eq_true, decide_eq_true_eq] at h
  have h2 : x.toNatClampNeg < n := Nat.le_of_ble_eq_true h.2
  intro q
  rcases q with q | q
  · exact absurd q (Int32.not_lt.mpr h.1)
  · omega
theorem inb_lt {x : Int32} {n : Nat} (h : inb x n = true) : x.toNatClampNeg < n := by
  simp only [inb, Bool.and_eq_true] at h
  exact Nat.le_of_ble_eq_true h.2
/-- an array access: the type, the family, the owner, the place -/
def okA (t F i : Nat) (x : Int32) : Bool := isArr F && Nat.blt F 206 && Nat.beq (tA F) t && Nat.blt i (nA F) && inb x (lA F)
theorem okA_s {t F i : Nat} {x : Int32} (h : okA t F i x = true) : (dec (oA F i) = (10, F, i) ∧ oA F i < 606) ∧ tA F = t ∧ inb x (lA F) = true := by
  simp only [okA, Bool.and_eq_true] at h
  obtain ⟨⟨⟨⟨h1, h2⟩, h3⟩, h4⟩, h5⟩ := h
  exact ⟨dec_arr F (Nat.le_of_ble_eq_true h2) i (Nat.le_of_ble_eq_true h4) h1, Nat.eq_of_beq_eq_true h3, h5⟩
theorem okA_o {t F i : Nat} {x : Int32} (h : okA t F i x = true) : oOf F i = oA F i := by
  simp only [okA, Bool.and_eq_true] at h
  simp only [oOf, h.1.1.1.1, cond_true]
def b01 (x : Int32) : Bool := decide (x = 0 ∨ x = 1)
theorem b01_s {x : Int32} (h : b01 x = true) : x = 0 ∨ x = 1 := by simpa [b01] using h
def isC (x : Int32) : Bool := decide (0 ≤ x ∧ x ≤ 65535)
theorem isC_nI {x : Int32} (h : isC x = true) : ∃ j : Nat, j < 65536 ∧ x = nI j := by
  simp only [isC, decide_eq_true_eq] at h
  obtain ⟨j, hj, rfl⟩ := nI_of (Int32.not_lt.mpr h.1)
  refine ⟨j, ?_, rfl⟩
  have h2 := Int32.le_iff_toInt_le.mp h.2
  rw [nI_toInt hj] at h2
  have h3 : (65535 : Int32).toInt = 65535 := by decide
  omega
theorem isC_narrow {x : Int32} (h : isC x = true) : narrow .char (.int x) = .int x := by
  obtain ⟨j, hj, rfl⟩ := isC_nI h
  exact (pk_charN hj).1
theorem isC_fits {x : Int32} (h : isC x = true) : fits .char (.int x) = true := by
  obtain ⟨j, hj, rfl⟩ := isC_nI h
  exact (pk_charN hj).2
theorem isC_nar {x : Int32} (h : isC x = true) : vp_nar .char x = x := by
  simp only [vp_nar, isC_narrow h]
theorem b01_nar {x : Int32} (h : b01 x = true) : vp_nar .boolean x = x := by
  rcases b01_s h with rfl | rfl <;> rfl
theorem b01_narrow {x : Int32} (h : b01 x = true) : narrow .boolean (.int x) = .int x := by
  rcases b01_s h with rfl | rfl <;> rfl
theorem b01_fits {x : Int32} (h : b01 x = true) : fits .boolean (.int x) = true := by
  rcases b01_s h with rfl | rfl <;> decide
theorem upd_same (f : Nat → Int32) (k : Nat) (x : Int32) : upd f k x = fun k' => if k' = k then x else f k' := rfl
section GR
variable {p : Program} {l : Launch} {e : Env} {R : Room} {s : State} {m : MethodId} {args : Array Value} {below : List Frame} {meth : Method} {c : Code} {nL cells slots : Nat} {Q : State → Prop} {E : gE} {w : Nat → Int64} {σ : gSt} {pc q : Nat} {lv lv' : List (Nat × Value)} {st : List Value} {cc : ByteArray} {own : String} {ret : Option FieldType}
def G (p : Program) (l : Launch) (e : Env) (R : Room) (s : State) (m : MethodId) (args : Array Value) (below : List Frame) (meth : Method) (c : Code) (nL cells slots : Nat) (Q : State → Prop) (E : gE) (w : Nat → Int64) (σ : gSt) (pc : Nat) (lv : List (Nat × Value)) (st : List Value) : Prop :=
  ∀ (H : Heap) (locs : List Loc) (ls : Array Slot), va_P (eD E) vwCl (gW E w σ) H → va_S (fun q => eB E ≤ q) s.heap H locs → lv_has ls nL lv → W p l e R s m args below meth c H locs cells slots Q (F0 m pc ls st)
/-- what stands over a whole body -/
def gCx (p : Program) (s : State) (m : MethodId) (args : Array Value) (meth : Method) (c : Code) (cc : ByteArray) (nL : Nat) (own : String) (ret : Option FieldType) (E : gE) : Prop :=
  p.tables.exec = Jvm.exec ∧ c.code = cc ∧ c.maxLocals = nL ∧ s.vm.findClass own = some m.cls ∧ (∀ w ∈ WALL, w.before args s = true) ∧ gK E s ∧ meth.sig.returnType = ret ∧ meth.locks = false
theorem G_iconst {n : Int} {v : Int32} (hC : gCx p s m args meth c cc nL own ret E) (d : decode cc pc = .ok (.iconst n, 1)) (hq : pc + 1 = q) (hv : Int32.ofInt n = v) (k : G p l e R s m args below meth c nL cells slots Q E w σ q lv (.int v :: st)): G p l e R s m args below meth c nL cells slots Q E w σ pc lv st := by
  subst hq
  intro H locs ls hP hS hl
  exact lv_iconst hC.1 hC.2.1 d hv (k H locs ls hP hS hl)
theorem G_bipush {n : Int} {v : Int32} (hC : gCx p s m args meth c cc nL own ret E) (d : decode cc pc = .ok (.bipush n, 2)) (hq : pc + 2 = q) (hv : (Int8.ofInt n).toInt32 = v) (k : G p l e R s m args below meth c nL cells slots Q E w σ q lv (.int v :: st)): G p l e R s m args below meth c nL cells slots Q E w σ pc lv st := by
  subst hq
  intro H locs ls hP hS hl
  exact lv_bipush hC.1 hC.2.1 d hv (k H locs ls hP hS hl)
theorem G_sipush {n : Int} {v : Int32} (hC : gCx p s m args meth c cc nL own ret E) (d : decode cc pc = .ok (.sipush n, 3)) (hq : pc + 3 = q) (hv : (Int16.ofInt n).toInt32 = v) (k : G p l e R s m args below meth c nL cells slots Q E w σ q lv (.int v :: st)): G p l e R s m args below meth c nL cells slots Q E w σ pc lv st := by
  subst hq
  intro H locs ls hP hS hl
  exact lv_sipush hC.1 hC.2.1 d hv (k H locs ls hP hS hl)
theorem G_iload_n {n : Fin 4} {x : Int32} (hC : gCx p s m args meth c cc nL own ret E) (d : decode cc pc = .ok (.iload_n n, 1)) (hq : pc + 1 = q) (hx : lkp lv n = some (.int x)) (k : G p l e R s m args below meth c nL cells slots Q E w σ q lv (.int x :: st)): G p l e R s m args below meth c nL cells slots Q E w σ pc lv st := by
  subst hq
  intro H locs ls hP hS hl
  exact lv_iload_n hC.1 hC.2.1 d rfl (lkp_at hl hx) (k H locs ls hP hS hl)
theorem G_iload {n : Nat} {x : Int32} (hC : gCx p s m args meth c cc nL own ret E) (d : decode cc pc = .ok (.iload n, 2)) (hq : pc + 2 = q) (hx : lkp lv n = some (.int x)) (k : G p l e R s m args below meth c nL cells slots Q E w σ q lv (.int x :: st)): G p l e R s m args below meth c nL cells slots Q E w σ pc lv st := by
  subst hq
  intro H locs ls hP hS hl
  exact lv_iload hC.1 hC.2.1 d (lkp_at hl hx) (k H locs ls hP hS hl)
theorem G_aload_n {n : Fin 4} {x : Nat} (hC : gCx p s m args meth c cc nL own ret E) (d : decode cc pc = .ok (.aload_n n, 1)) (hq : pc + 1 = q) (hx : lkp lv n = some (.ref x)) (k : G p l e R s m args below meth c nL cells slots Q E w σ q lv (.ref x :: st)): G p l e R s m args below meth c nL cells slots Q E w σ pc lv st := by
  subst hq
  intro H locs ls hP hS hl
  exact lv_aload_n hC.1 hC.2.1 d rfl (lkp_at hl hx) (k H locs ls hP hS hl)
theorem G_aload {n : Nat} {x : Nat} (hC : gCx p s m args meth c cc nL own ret E) (d : decode cc pc = .ok (.aload n, 2)) (hq : pc + 2 = q) (hx : lkp lv n = some (.ref x)) (k : G p l e R s m args below meth c nL cells slots Q E w σ q lv (.ref x :: st)): G p l e R s m args below meth c nL cells slots Q E w σ pc lv st := by
  subst hq
  intro H locs ls hP hS hl
  exact lv_aload hC.1 hC.2.1 d (lkp_at hl hx) (k H locs ls hP hS hl)
theorem G_istore_n {n : Fin 4} {x : Int32} (hC : gCx p s m args meth c cc nL own ret E) (d : decode cc pc = .ok (.istore_n n, 1)) (hq : pc + 1 = q) (hn : (n : Nat) < nL) (hv : ((n : Nat), Value.int x) :: lv.filter (fun q => !(q.1 == (n : Nat)) && !(q.1 + 1 == (n : Nat) && q.2.category == 2)) = lv') (k : G p l e R s m args below meth c nL cells slots Q E w σ q lv' st): G p l e R s m args below meth c nL cells slots Q E w σ pc lv (.int x :: st) := by
  subst hq
  intro H locs ls hP hS hl
  exact lv_istore_n hC.1 hC.2.1 d rfl hl hn hv (fun ls' hl' => k H locs ls' hP hS hl')
theorem G_istore {n : Nat} {x : Int32} (hC : gCx p s m args meth c cc nL own ret E) (d : decode cc pc = .ok (.istore n, 2)) (hq : pc + 2 = q) (hn : n < nL) (hv : (n, Value.int x) :: lv.filter (fun q => !(q.1 == n) && !(q.1 + 1 == n && q.2.category == 2)) = lv') (k : G p l e R s m args below meth c nL cells slots Q E w σ q lv' st): G p l e R s m args below meth c nL cells slots Q E w σ pc lv (.int x :: st) := by
  subst hq
  intro H locs ls hP hS hl
  exact lv_istore hC.1 hC.2.1 d hl hn hv (fun ls' hl' => k H locs ls' hP hS hl')
theorem G_astore_n {n : Fin 4} {x : Nat} (hC : gCx p s m args meth c cc nL own ret E) (d : decode cc pc = .ok (.astore_n n, 1)) (hq : pc + 1 = q) (hn : (n : Nat) < nL) (hv : ((n : Nat), Value.ref x) :: lv.filter (fun q => !(q.1 == (n : Nat)) && !(q.1 + 1 == (n : Nat) && q.2.category == 2)) = lv') (k : G p l e R s m args below meth c nL cells slots Q E w σ q lv' st): G p l e R s m args below meth c nL cells slots Q E w σ pc lv (.ref x :: st) := by
  subst hq
  intro H locs ls hP hS hl
  exact lv_astore_n hC.1 hC.2.1 d rfl hl hn hv (fun ls' hl' => k H locs ls' hP hS hl')
theorem G_astore {n : Nat} {x : Nat} (hC : gCx p s m args meth c cc nL own ret E) (d : decode cc pc = .ok (.astore n, 2)) (hq : pc + 2 = q) (hn : n < nL) (hv : (n, Value.ref x) :: lv.filter (fun q => !(q.1 == n) && !(q.1 + 1 == n && q.2.category == 2)) = lv') (k : G p l e R s m args below meth c nL cells slots Q E w σ q lv' st): G p l e R s m args below meth c nL cells slots Q E w σ pc lv (.ref x :: st) := by
  subst hq
  intro H locs ls hP hS hl
  exact lv_astore hC.1 hC.2.1 d hl hn hv (fun ls' hl' => k H locs ls' hP hS hl')
theorem G_iinc {i n : Nat} {z : Int} {x v : Int32} (hC : gCx p s m args meth c cc nL own ret E) (d : decode cc pc = .ok (.iinc i z, 3)) (hq : pc + 3 = q) (hk : lv[n]? = some (i, .int x)) (hx : x + Int32.ofInt z = v) (hn : i < nL) (hv : (i, Value.int v) :: lv.filter (fun q => !(q.1 == i) && !(q.1 + 1 == i && q.2.category == 2)) = lv') (k : G p l e R s m args below meth c nL cells slots Q E w σ q lv' st): G p l e R s m args below meth c nL cells slots Q E w σ pc lv st := by
  subst hq
  intro H locs ls hP hS hl
  exact lv_iinc hC.1 hC.2.1 d hl hk hx hn hv (fun ls' hl' => k H locs ls' hP hS hl')
theorem G_iadd {x y : Int32} (hC : gCx p s m args meth c cc nL own ret E) (d : decode cc pc = .ok (.iadd, 1)) (hq : pc + 1 = q) (k : G p l e R s m args below meth c nL cells slots Q E w σ q lv (.int (x + y) :: st)): G p l e R s m args below meth c nL cells slots Q E w σ pc lv (.int y :: .int x :: st) := by
  subst hq
  intro H locs ls hP hS hl
  exact lv_iadd hC.1 hC.2.1 d (k H locs ls hP hS hl)
theorem G_isub {x y : Int32} (hC : gCx p s m args meth c cc nL own ret E) (d : decode cc pc = .ok (.isub, 1)) (hq : pc + 1 = q) (k : G p l e R s m args below meth c nL cells slots Q E w σ q lv (.int (x - y) :: st)): G p l e R s m args below meth c nL cells slots Q E w σ pc lv (.int y :: .int x :: st) := by
  subst hq
  intro H locs ls hP hS hl
  exact lv_isub hC.1 hC.2.1 d (k H locs ls hP hS hl)
theorem G_imul {x y : Int32} (hC : gCx p s m args meth c cc nL own ret E) (d : decode cc pc = .ok (.imul, 1)) (hq : pc + 1 = q) (k : G p l e R s m args below meth c nL cells slots Q E w σ q lv (.int (x * y) :: st)): G p l e R s m args below meth c nL cells slots Q E w σ pc lv (.int y :: .int x :: st) := by
  subst hq
  intro H locs ls hP hS hl
  exact lv_imul hC.1 hC.2.1 d (k H locs ls hP hS hl)
theorem G_iand {x y : Int32} (hC : gCx p s m args meth c cc nL own ret E) (d : decode cc pc = .ok (.iand, 1)) (hq : pc + 1 = q) (k : G p l e R s m args below meth c nL cells slots Q E w σ q lv (.int (x &&& y) :: st)): G p l e R s m args below meth c nL cells slots Q E w σ pc lv (.int y :: .int x :: st) := by
  subst hq
  intro H locs ls hP hS hl
  exact lv_iand hC.1 hC.2.1 d (k H locs ls hP hS hl)
theorem G_ior {x y : Int32} (hC : gCx p s m args meth c cc nL own ret E) (d : decode cc pc = .ok (.ior, 1)) (hq : pc + 1 = q) (k : G p l e R s m args below meth c nL cells slots Q E w σ q lv (.int (x ||| y) :: st)): G p l e R s m args below meth c nL cells slots Q E w σ pc lv (.int y :: .int x :: st) := by
  subst hq
  intro H locs ls hP hS hl
  exact lv_ior hC.1 hC.2.1 d (k H locs ls hP hS hl)
theorem G_ishl {x y : Int32} (hC : gCx p s m args meth c cc nL own ret E) (d : decode cc pc = .ok (.ishl, 1)) (hq : pc + 1 = q) (k : G p l e R s m args below meth c nL cells slots Q E w σ q lv (.int (x <<< (y &&& 31)) :: st)): G p l e R s m args below meth c nL cells slots Q E w σ pc lv (.int y :: .int x :: st) := by
  subst hq
  intro H locs ls hP hS hl
  exact lv_ishl hC.1 hC.2.1 d (k H locs ls hP hS hl)
theorem G_ishr {x y : Int32} (hC : gCx p s m args meth c cc nL own ret E) (d : decode cc pc = .ok (.ishr, 1)) (hq : pc + 1 = q) (k : G p l e R s m args below meth c nL cells slots Q E w σ q lv (.int (x >>> (y &&& 31)) :: st)): G p l e R s m args below meth c nL cells slots Q E w σ pc lv (.int y :: .int x :: st) := by
  subst hq
  intro H locs ls hP hS hl
  exact lv_ishr hC.1 hC.2.1 d (k H locs ls hP hS hl)
theorem G_idiv {x y : Int32} (hC : gCx p s m args meth c cc nL own ret E) (d : decode cc pc = .ok (.idiv, 1)) (hq : pc + 1 = q) (hne : ¬ y = 0) (k : G p l e R s m args below meth c nL cells slots Q E w σ q lv (.int (x / y) :: st)): G p l e R s m args below meth c nL cells slots Q E w σ pc lv (.int y :: .int x :: st) := by
  subst hq
  intro H locs ls hP hS hl
  exact lv_idiv hC.1 hC.2.1 d hne (k H locs ls hP hS hl)
theorem G_irem {x y : Int32} (hC : gCx p s m args meth c cc nL own ret E) (d : decode cc pc = .ok (.irem, 1)) (hq : pc + 1 = q) (hne : ¬ y = 0) (k : G p l e R s m args below meth c nL cells slots Q E w σ q lv (.int (x - (x / y) * y) :: st)): G p l e R s m args below meth c nL cells slots Q E w σ pc lv (.int y :: .int x :: st) := by
  subst hq
  intro H locs ls hP hS hl
  exact lv_irem hC.1 hC.2.1 d hne (k H locs ls hP hS hl)
theorem G_i2c {x v : Int32} (hC : gCx p s m args meth c cc nL own ret E) (d : decode cc pc = .ok (.i2c, 1)) (hq : pc + 1 = q) (hv : (x.toUInt32 % 65536).toInt32 = v) (k : G p l e R s m args below meth c nL cells slots Q E w σ q lv (.int v :: st)): G p l e R s m args below meth c nL cells slots Q E w σ pc lv (.int x :: st) := by
  subst hq
  intro H locs ls hP hS hl
  exact lv_i2c hC.1 hC.2.1 d hv (k H locs ls hP hS hl)
theorem G_dup {v : Value} (hC : gCx p s m args meth c cc nL own ret E) (d : decode cc pc = .ok (.dup, 1)) (hq : pc + 1 = q) (hv : v.category = 1) (k : G p l e R s m args below meth c nL cells slots Q E w σ q lv (v :: v :: st)): G p l e R s m args below meth c nL cells slots Q E w σ pc lv (v :: st) := by
  subst hq
  intro H locs ls hP hS hl
  exact lv_dup hC.1 hC.2.1 d hv (k H locs ls hP hS hl)
theorem G_dup2 {v u : Value} (hC : gCx p s m args meth c cc nL own ret E) (d : decode cc pc = .ok (.dup2, 1)) (hq : pc + 1 = q) (hv : v.category = 1) (hu : u.category = 1) (k : G p l e R s m args below meth c nL cells slots Q E w σ q lv (v :: u :: v :: u :: st)): G p l e R s m args below meth c nL cells slots Q E w σ pc lv (v :: u :: st) := by
  subst hq
  intro H locs ls hP hS hl
  exact lv_dup2_11 hC.1 hC.2.1 d hv hu (k H locs ls hP hS hl)
theorem G_dup_x1 {v u : Value} (hC : gCx p s m args meth c cc nL own ret E) (d : decode cc pc = .ok (.dup_x1, 1)) (hq : pc + 1 = q) (hv : v.category = 1) (hu : u.category = 1) (k : G p l e R s m args below meth c nL cells slots Q E w σ q lv (v :: u :: v :: st)): G p l e R s m args below meth c nL cells slots Q E w σ pc lv (v :: u :: st) := by
  subst hq
  intro H locs ls hP hS hl
  exact lv_dup_x1 hC.1 hC.2.1 d hv hu (k H locs ls hP hS hl)
theorem G_pop {v : Value} (hC : gCx p s m args meth c cc nL own ret E) (d : decode cc pc = .ok (.pop, 1)) (hq : pc + 1 = q) (hv : v.category = 1) (k : G p l e R s m args below meth c nL cells slots Q E w σ q lv st): G p l e R s m args below meth c nL cells slots Q E w σ pc lv (v :: st) := by
  subst hq
  intro H locs ls hP hS hl
  exact lv_pop hC.1 hC.2.1 d hv (k H locs ls hP hS hl)
theorem G_if_eq {x : Int32} {off : Int} {tgt : Nat} (hC : gCx p s m args meth c cc nL own ret E) (d : decode cc pc = .ok (.ifCond .eq off, 3)) (ht : (pc : Int) + off = (tgt : Int)) (hq : pc + 3 = q) (kt : x = 0 → G p l e R s m args below meth c nL cells slots Q E w σ tgt lv st) (kf : ¬ x = 0 → G p l e R s m args below meth c nL cells slots Q E w σ q lv st): G p l e R s m args below meth c nL cells slots Q E w σ pc lv (.int x :: st) := by
  subst hq
  intro H locs ls hP hS hl
  exact lv_if_eq hC.1 hC.2.1 d ht (fun h => kt h H locs ls hP hS hl) (fun h => kf h H locs ls hP hS hl)
theorem G_if_ne {x : Int32} {off : Int} {tgt : Nat} (hC : gCx p s m args meth c cc nL own ret E) (d : decode cc pc = .ok (.ifCond .ne off, 3)) (ht : (pc : Int) + off = (tgt : Int)) (hq : pc + 3 = q) (kt : ¬ x = 0 → G p l e R s m args below meth c nL cells slots Q E w σ tgt lv st) (kf : x = 0 → G p l e R s m args below meth c nL cells slots Q E w σ q lv st): G p l e R s m args below meth c nL cells slots Q E w σ pc lv (.int x :: st) := by
  subst hq
  intro H locs ls hP hS hl
  exact lv_if_ne hC.1 hC.2.1 d ht (fun h => kt h H locs ls hP hS hl) (fun h => kf h H locs ls hP hS hl)
theorem G_if_lt {x : Int32} {off : Int} {tgt : Nat} (hC : gCx p s m args meth c cc nL own ret E) (d : decode cc pc = .ok (.ifCond .lt off, 3)) (ht : (pc : Int) + off = (tgt : Int)) (hq : pc + 3 = q) (kt : x < 0 → G p l e R s m args below meth c nL cells slots Q E w σ tgt lv st) (kf : ¬ x < 0 → G p l e R s m args below meth c nL cells slots Q E w σ q lv st): G p l e R s m args below meth c nL cells slots Q E w σ pc lv (.int x :: st) := by
  subst hq
  intro H locs ls hP hS hl
  exact lv_if_lt hC.1 hC.2.1 d ht (fun h => kt h H locs ls hP hS hl) (fun h => kf h H locs ls hP hS hl)
theorem G_if_ge {x : Int32} {off : Int} {tgt : Nat} (hC : gCx p s m args meth c cc nL own ret E) (d : decode cc pc = .ok (.ifCond .ge off, 3)) (ht : (pc : Int) + off = (tgt : Int)) (hq : pc + 3 = q) (kt : 0 ≤ x → G p l e R s m args below meth c nL cells slots Q E w σ tgt lv st) (kf : ¬ 0 ≤ x → G p l e R s m args below meth c nL cells slots Q E w σ q lv st): G p l e R s m args below meth c nL cells slots Q E w σ pc lv (.int x :: st) := by
  subst hq
  intro H locs ls hP hS hl
  exact lv_if_ge hC.1 hC.2.1 d ht (fun h => kt h H locs ls hP hS hl) (fun h => kf h H locs ls hP hS hl)
theorem G_if_gt {x : Int32} {off : Int} {tgt : Nat} (hC : gCx p s m args meth c cc nL own ret E) (d : decode cc pc = .ok (.ifCond .gt off, 3)) (ht : (pc : Int) + off = (tgt : Int)) (hq : pc + 3 = q) (kt : 0 < x → G p l e R s m args below meth c nL cells slots Q E w σ tgt lv st) (kf : ¬ 0 < x → G p l e R s m args below meth c nL cells slots Q E w σ q lv st): G p l e R s m args below meth c nL cells slots Q E w σ pc lv (.int x :: st) := by
  subst hq
  intro H locs ls hP hS hl
  exact lv_if_gt hC.1 hC.2.1 d ht (fun h => kt h H locs ls hP hS hl) (fun h => kf h H locs ls hP hS hl)
theorem G_if_le {x : Int32} {off : Int} {tgt : Nat} (hC : gCx p s m args meth c cc nL own ret E) (d : decode cc pc = .ok (.ifCond .le off, 3)) (ht : (pc : Int) + off = (tgt : Int)) (hq : pc + 3 = q) (kt : x ≤ 0 → G p l e R s m args below meth c nL cells slots Q E w σ tgt lv st) (kf : ¬ x ≤ 0 → G p l e R s m args below meth c nL cells slots Q E w σ q lv st): G p l e R s m args below meth c nL cells slots Q E w σ pc lv (.int x :: st) := by
  subst hq
  intro H locs ls hP hS hl
  exact lv_if_le hC.1 hC.2.1 d ht (fun h => kt h H locs ls hP hS hl) (fun h => kf h H locs ls hP hS hl)
theorem G_icmp_eq {x y : Int32} {off : Int} {tgt : Nat} (hC : gCx p s m args meth c cc nL own ret E) (d : decode cc pc = .ok (.if_icmp .eq off, 3)) (ht : (pc : Int) + off = (tgt : Int)) (hq : pc + 3 = q) (kt : x = y → G p l e R s m args below meth c nL cells slots Q E w σ tgt lv st) (kf : ¬ x = y → G p l e R s m args below meth c nL cells slots Q E w σ q lv st): G p l e R s m args below meth c nL cells slots Q E w σ pc lv (.int y :: .int x :: st) := by
  subst hq
  intro H locs ls hP hS hl
  exact lv_icmp_eq hC.1 hC.2.1 d ht (fun h => kt h H locs ls hP hS hl) (fun h => kf h H locs ls hP hS hl)
theorem G_icmp_ne {x y : Int32} {off : Int} {tgt : Nat} (hC : gCx p s m args meth c cc nL own ret E) (d : decode cc pc = .ok (.if_icmp .ne off, 3)) (ht : (pc : Int) + off = (tgt : Int)) (hq : pc + 3 = q) (kt : ¬ x = y → G p l e R s m args below meth c nL cells slots Q E w σ tgt lv st) (kf : x = y → G p l e R s m args below meth c nL cells slots Q E w σ q lv st): G p l e R s m args below meth c nL cells slots Q E w σ pc lv (.int y :: .int x :: st) := by
  subst hq
  intro H locs ls hP hS hl
  exact lv_icmp_ne hC.1 hC.2.1 d ht (fun h => kt h H locs ls hP hS hl) (fun h => kf h H locs ls hP hS hl)
theorem G_icmp_lt {x y : Int32} {off : Int} {tgt : Nat} (hC : gCx p s m args meth c cc nL own ret E) (d : decode cc pc = .ok (.if_icmp .lt off, 3)) (ht : (pc : Int) + off = (tgt : Int)) (hq : pc + 3 = q) (kt : x < y → G p l e R s m args below meth c nL cells slots Q E w σ tgt lv st) (kf : ¬ x < y → G p l e R s m args below meth c nL cells slots Q E w σ q lv st): G p l e R s m args below meth c nL cells slots Q E w σ pc lv (.int y :: .int x :: st) := by
  subst hq
  intro H locs ls hP hS hl
  exact lv_icmp_lt hC.1 hC.2.1 d ht (fun h => kt h H locs ls hP hS hl) (fun h => kf h H locs ls hP hS hl)
theorem G_icmp_ge {x y : Int32} {off : Int} {tgt : Nat} (hC : gCx p s m args meth c cc nL own ret E) (d : decode cc pc = .ok (.if_icmp .ge off, 3)) (ht : (pc : Int) + off = (tgt : Int)) (hq : pc + 3 = q) (kt : y ≤ x → G p l e R s m args below meth c nL cells slots Q E w σ tgt lv st) (kf : ¬ y ≤ x → G p l e R s m args below meth c nL cells slots Q E w σ q lv st): G p l e R s m args below meth c nL cells slots Q E w σ pc lv (.int y :: .int x :: st) := by
  subst hq
  intro H locs ls hP hS hl
  exact lv_icmp_ge hC.1 hC.2.1 d ht (fun h => kt h H locs ls hP hS hl) (fun h => kf h H locs ls hP hS hl)
theorem G_icmp_gt {x y : Int32} {off : Int} {tgt : Nat} (hC : gCx p s m args meth c cc nL own ret E) (d : decode cc pc = .ok (.if_icmp .gt off, 3)) (ht : (pc : Int) + off = (tgt : Int)) (hq : pc + 3 = q) (kt : y < x → G p l e R s m args below meth c nL cells slots Q E w σ tgt lv st) (kf : ¬ y < x → G p l e R s m args below meth c nL cells slots Q E w σ q lv st): G p l e R s m args below meth c nL cells slots Q E w σ pc lv (.int y :: .int x :: st) := by
  subst hq
  intro H locs ls hP hS hl
  exact lv_icmp_gt hC.1 hC.2.1 d ht (fun h => kt h H locs ls hP hS hl) (fun h => kf h H locs ls hP hS hl)
theorem G_icmp_le {x y : Int32} {off : Int} {tgt : Nat} (hC : gCx p s m args meth c cc nL own ret E) (d : decode cc pc = .ok (.if_icmp .le off, 3)) (ht : (pc : Int) + off = (tgt : Int)) (hq : pc + 3 = q) (kt : x ≤ y → G p l e R s m args below meth c nL cells slots Q E w σ tgt lv st) (kf : ¬ x ≤ y → G p l e R s m args below meth c nL cells slots Q E w σ q lv st): G p l e R s m args below meth c nL cells slots Q E w σ pc lv (.int y :: .int x :: st) := by
  subst hq
  intro H locs ls hP hS hl
  exact lv_icmp_le hC.1 hC.2.1 d ht (fun h => kt h H locs ls hP hS hl) (fun h => kf h H locs ls hP hS hl)
theorem G_goto {off : Int} {tgt : Nat} (hC : gCx p s m args meth c cc nL own ret E) (d : decode cc pc = .ok (.goto off, 3)) (ht : (pc : Int) + off = (tgt : Int)) (k : G p l e R s m args below meth c nL cells slots Q E w σ tgt lv st): G p l e R s m args below meth c nL cells slots Q E w σ pc lv st := by
  intro H locs ls hP hS hl
  exact lv_goto hC.1 hC.2.1 d ht (k H locs ls hP hS hl)
theorem G_lv (ks : List Nat) (h : lv_pick lv ks = lv') (k : G p l e R s m args below meth c nL cells slots Q E w σ pc lv' st) : G p l e R s m args below meth c nL cells slots Q E w σ pc lv st := fun H locs ls hP hS hl => k H locs ls hP hS (lv_sub hl ks h)
def okF (x : Int32) : Bool := decide (0 ≤ x) && Nat.blt x.toNatClampNeg 5
theorem okF_lt {x : Int32} (h : okF x = true) : x.toNatClampNeg < 5 := by
  simp only [okF, Bool.and_eq_true] at h
  exact Nat.le_of_ble_eq_true h.2
theorem okF_eq {x y : Int32} (hx : okF x = true) (hy : okF y = true) (h : x.toNatClampNeg = y.toNatClampNeg) : x = y := by
  simp only [okF, Bool.and_eq_true, decide_eq_true_eq] at hx hy
  obtain ⟨j, hj, rfl⟩ := nI_of (Int32.not_lt.mpr hx.1)
  obtain ⟨k, hk, rfl⟩ := nI_of (Int32.not_lt.mpr hy.1)
  rw [nI_clamp hj, nI_clamp hk] at h
  rw [h]
theorem G_acmp_ne {x y : Int32} {off : Int} {tgt : Nat} (hC : gCx p s m args meth c cc nL own ret E) (d : decode cc pc = .ok (.if_acmp .ne off, 3)) (ht : (pc : Int) + off = (tgt : Int)) (hq : pc + 3 = q) (hx : okF x = true) (hy : okF y = true) (kt : ¬ x = y → G p l e R s m args below meth c nL cells slots Q E w σ tgt lv st) (kf : x = y → G p l e R s m args below meth c nL cells slots Q E w σ q lv st): G p l e R s m args below meth c nL cells slots Q E w σ pc lv (.ref (eF E y.toNatClampNeg) :: .ref (eF E x.toNatClampNeg) :: st) := by
  subst hq
  intro H locs ls hP hS hl
  exact lv_acmp_ne (rx := some (eF E x.toNatClampNeg)) (ry := some (eF E y.toNatClampNeg)) hC.1 hC.2.1 d ht (fun h => kt (fun z => h (by rw [z])) H locs ls hP hS hl) (fun h => kf (okF_eq hx hy (hC.2.2.2.2.2.1.2.2.2.2.2.2.2.1 _ _ (okF_lt hx) (okF_lt hy) (Option.some.inj h))) H locs ls hP hS hl)
theorem G_get {o ci k N idx : Nat} {C ref : String} {T : u_T} {fs : List Value} {v : Value} (hC : gCx p s m args meth c cc nL own ret E) (d : decode cc pc = .ok (.getfield idx, 3)) (hq : pc + 3 = q) (ho : o < 606) (hc : gC E w σ o = .inr (ci, fs)) (hcl : vwCl[ci]? = some (C, T, N)) (hin : ∀ w ∈ u_ws C T N, w ∈ WALL) (hk : k < N) (hlink : Cond.fieldLink own idx ref (T k).2.1 (T k).2.2.1 ∈ WALL) (href : (T k).1 = ref) (hv : fs[k]? = some v) (kk : G p l e R s m args below meth c nL cells slots Q E w σ q lv (v :: st)): G p l e R s m args below meth c nL cells slots Q E w σ pc lv (.ref (eB E + o) :: st) := by
  subst hq
  subst href
  intro H locs ls hP hS hl
  exact va_get hC.1 hC.2.1 hC.2.2.2.2.1 hin hC.2.2.2.1 hC.2.2.2.2.2.1.1 hP o (by rw [gW_at ho, hc]) hcl k hk (hC.2.2.2.2.1 _ hlink) (fun _ h => h) hv d (kk H locs ls hP hS hl)
theorem G_getN {host : String} {o ci k N idx : Nat} {C ref : String} {T : u_T} {fs : List Value} {v : Value} (hC : gCx p s m args meth c cc nL own ret E) (d : decode cc pc = .ok (.getfield idx, 3)) (hq : pc + 3 = q) (ho : o < 606) (hc : gC E w σ o = .inr (ci, fs)) (hcl : vwCl[ci]? = some (C, T, N)) (hin : ∀ w ∈ u_ws C T N, w ∈ WALL) (hk : k < N) (hlink : Cond.fieldLinkNest own idx ref (T k).2.1 (T k).2.2.1 host ∈ NWL) (href : (T k).1 = ref) (hv : fs[k]? = some v) (kk : G p l e R s m args below meth c nL cells slots Q E w σ q lv (v :: st)): G p l e R s m args below meth c nL cells slots Q E w σ pc lv (.ref (eB E + o) :: st) := by
  subst hq
  subst href
  intro H locs ls hP hS hl
  exact va_getN hC.1 hC.2.1 hC.2.2.2.2.1 hin hC.2.2.2.1 hC.2.2.2.2.2.1.1 hP o (by rw [gW_at ho, hc]) hcl k hk (va_Nw.use rfl (hC.2.2.2.2.2.1.2.1 _ hlink)) (fun _ h => h) hv d (kk H locs ls hP hS hl)
theorem G_put {o ci k N idx : Nat} {C ref : String} {T : u_T} {fs : List Value} {F i : Nat} {x : Int32} {ty : FieldType} (hC : gCx p s m args meth c cc nL own ret E) (d : decode cc pc = .ok (.putfield idx, 3)) (hq : pc + 3 = q) (ho : o < 606) (hc : gC E w σ o = .inr (ci, fs)) (hcl : vwCl[ci]? = some (C, T, N)) (hin : ∀ w ∈ u_ws C T N, w ∈ WALL) (hk : k < N) (hlink : Cond.fieldLink own idx ref (T k).2.1 (T k).2.2.1 ∈ WALL) (href : (T k).1 = ref) (hoo : oOf F i = o) (hset : gC E w (gU σ F i 0 x) o = .inr (ci, fs.set k (.int x))) (ty0 : Nat → FieldType) (hty : ∀ k, k < N → parseFieldDescriptor (T k).2.2.1 = some (ty0 k)) (hnm : ∀ a, a < N → ∀ b, b < N → a ≠ b → (T a).2.1 ≠ (T b).2.1) (hfin : (T k).2.2.2 = false) (hd : parseFieldDescriptor (T k).2.2.1 = some ty) (hn : narrow ty (.int x) = .int x) (hfit : fits ty (.int x) = true) (hlen : k < fs.length) (kk : G p l e R s m args below meth c nL cells slots Q E w (gU σ F i 0 x) q lv st): G p l e R s m args below meth c nL cells slots Q E w σ pc lv (.int x :: .ref (eB E + o) :: st) := by
  subst hq
  subst href
  intro H locs ls hP hS hl
  refine va_put hC.1 hC.2.1 hC.2.2.2.2.1 hin ty0 hty hnm hC.2.2.2.1 hC.2.2.2.2.2.1.1 hP gD hS o (by rw [gW_at ho, hc]) hcl k hk (hC.2.2.2.2.1 _ hlink) (fun _ h => h) hfin hd hn hfit hlen d (fun H1 locs1 hP1 _ hS1 => ?_)
  rw [gW_set hset (fun o' h1 h2 => by rw [gU_R]; exact gC_ne h1 (by rw [hoo]; exact h2))] at hP1
  exact kk H1 locs1 ls hP1 hS1 hl
theorem G_putN {host : String} {o ci k N idx : Nat} {C ref : String} {T : u_T} {fs : List Value} {F i : Nat} {x : Int32} {ty : FieldType} (hC : gCx p s m args meth c cc nL own ret E) (d : decode cc pc = .ok (.putfield idx, 3)) (hq : pc + 3 = q) (ho : o < 606) (hc : gC E w σ o = .inr (ci, fs)) (hcl : vwCl[ci]? = some (C, T, N)) (hin : ∀ w ∈ u_ws C T N, w ∈ WALL) (hk : k < N) (hlink : Cond.fieldLinkNest own idx ref (T k).2.1 (T k).2.2.1 host ∈ NWL) (href : (T k).1 = ref) (hoo : oOf F i = o) (hset : gC E w (gU σ F i 0 x) o = .inr (ci, fs.set k (.int x))) (ty0 : Nat → FieldType) (hty : ∀ k, k < N → parseFieldDescriptor (T k).2.2.1 = some (ty0 k)) (hnm : ∀ a, a < N → ∀ b, b < N → a ≠ b → (T a).2.1 ≠ (T b).2.1) (hfin : (T k).2.2.2 = false) (hd : parseFieldDescriptor (T k).2.2.1 = some ty) (hn : narrow ty (.int x) = .int x) (hfit : fits ty (.int x) = true) (hlen : k < fs.length) (kk : G p l e R s m args below meth c nL cells slots Q E w (gU σ F i 0 x) q lv st): G p l e R s m args below meth c nL cells slots Q E w σ pc lv (.int x :: .ref (eB E + o) :: st) := by
  subst hq
  subst href
  intro H locs ls hP hS hl
  refine va_putN hC.1 hC.2.1 hC.2.2.2.2.1 hin ty0 hty hnm hC.2.2.2.1 hC.2.2.2.2.2.1.1 hP gD hS o (by rw [gW_at ho, hc]) hcl k hk (va_Nw.use rfl (hC.2.2.2.2.2.1.2.1 _ hlink)) (fun _ h => h) hfin hd hn hfit hlen d (fun H1 locs1 hP1 _ hS1 => ?_)
  rw [gW_set hset (fun o' h1 h2 => by rw [gU_R]; exact gC_ne h1 (by rw [hoo]; exact h2))] at hP1
  exact kk H1 locs1 ls hP1 hS1 hl
theorem G_iald {F i : Nat} {x : Int32} (hC : gCx p s m args meth c cc nL own ret E) (d : decode cc pc = .ok (.iaload, 1)) (hq : pc + 1 = q) (h : okA 1 F i x = true) (k : G p l e R s m args below meth c nL cells slots Q E w σ q lv (.int (σ F i x.toNatClampNeg) :: st)): G p l e R s m args below meth c nL cells slots Q E w σ pc lv (.int x :: .ref (eB E + oA F i) :: st) := by
  subst hq
  intro H locs ls hP hS hl
  obtain ⟨⟨h1, h2⟩, h3, h4⟩ := okA_s h
  exact va_iald (f := fun k => σ F i k) (cA := eT E 1) hC.1 hC.2.1 hC.2.2.2.2.2.1.1 hP (oA F i) 1 (by rw [gW_at h2, gC, h1]; simp only [cellK, h3]) rfl (inb_in h4) d (k H locs ls hP hS hl)
theorem G_zald {F i : Nat} {x : Int32} (hC : gCx p s m args meth c cc nL own ret E) (d : decode cc pc = .ok (.baload, 1)) (hq : pc + 1 = q) (h : okA 2 F i x = true) (k : G p l e R s m args below meth c nL cells slots Q E w σ q lv (.int (σ F i x.toNatClampNeg) :: st)): G p l e R s m args below meth c nL cells slots Q E w σ pc lv (.int x :: .ref (eB E + oA F i) :: st) := by
  subst hq
  intro H locs ls hP hS hl
  obtain ⟨⟨h1, h2⟩, h3, h4⟩ := okA_s h
  exact va_zald (f := fun k => σ F i k) (cA := eT E 2) hC.1 hC.2.1 hC.2.2.2.2.2.1.1 hP (oA F i) 2 (by rw [gW_at h2, gC, h1]; simp only [cellK, h3]) rfl (inb_in h4) d (k H locs ls hP hS hl)
theorem G_cald {F i : Nat} {x : Int32} (hC : gCx p s m args meth c cc nL own ret E) (d : decode cc pc = .ok (.caload, 1)) (hq : pc + 1 = q) (h : okA 0 F i x = true) (k : G p l e R s m args below meth c nL cells slots Q E w σ q lv (.int (σ F i x.toNatClampNeg) :: st)): G p l e R s m args below meth c nL cells slots Q E w σ pc lv (.int x :: .ref (eB E + oA F i) :: st) := by
  subst hq
  intro H locs ls hP hS hl
  obtain ⟨⟨h1, h2⟩, h3, h4⟩ := okA_s h
  exact va_cald (f := fun k => σ F i k) (cA := eT E 0) hC.1 hC.2.1 hC.2.2.2.2.2.1.1 hP (oA F i) 0 (by rw [gW_at h2, gC, h1]; simp only [cellK, h3]) rfl (inb_in h4) d (k H locs ls hP hS hl)
theorem G_iast {F i : Nat} {x y : Int32} (hC : gCx p s m args meth c cc nL own ret E) (d : decode cc pc = .ok (.iastore, 1)) (hq : pc + 1 = q) (h : okA 1 F i x = true) (k : G p l e R s m args below meth c nL cells slots Q E w (gU σ F i x.toNatClampNeg y) q lv st): G p l e R s m args below meth c nL cells slots Q E w σ pc lv (.int y :: .int x :: .ref (eB E + oA F i) :: st) := by
  subst hq
  intro H locs ls hP hS hl
  obtain ⟨⟨h1, h2⟩, h3, h4⟩ := okA_s h
  refine va_iast (f := fun k => σ F i k) (cA := eT E 1) hC.1 hC.2.1 hC.2.2.2.2.2.1.1 hP gD hS (oA F i) 1 (by rw [gW_at h2, gC, h1]; simp only [cellK, h3]) rfl (inb_in h4) d (fun H1 locs1 hP1 _ hS1 => ?_)
  rw [gW_set (σ' := gU σ F i x.toNatClampNeg y) (by rw [gC, h1]; simp only [cellK, h3]; rw [gU_R]; simp only [gR, and_self, if_true]; rfl) (fun o' h1 h2 => by rw [gU_R]; exact gC_ne h1 (by rw [okA_o h]; exact h2))] at hP1
  exact k H1 locs1 ls hP1 hS1 hl
theorem G_zast {F i : Nat} {x y : Int32} (hC : gCx p s m args meth c cc nL own ret E) (d : decode cc pc = .ok (.bastore, 1)) (hq : pc + 1 = q) (h : okA 2 F i x = true) (hb : b01 y = true) (k : G p l e R s m args below meth c nL cells slots Q E w (gU σ F i x.toNatClampNeg y) q lv st): G p l e R s m args below meth c nL cells slots Q E w σ pc lv (.int y :: .int x :: .ref (eB E + oA F i) :: st) := by
  subst hq
  intro H locs ls hP hS hl
  obtain ⟨⟨h1, h2⟩, h3, h4⟩ := okA_s h
  refine va_zast (f := fun k => σ F i k) (cA := eT E 2) hC.1 hC.2.1 hC.2.2.2.2.2.1.1 hP gD hS (oA F i) 2 (by rw [gW_at h2, gC, h1]; simp only [cellK, h3]) rfl (inb_in h4) d (fun H1 locs1 hP1 _ hS1 => ?_)
  rw [b01_nar hb] at hP1
  rw [gW_set (σ' := gU σ F i x.toNatClampNeg y) (by rw [gC, h1]; simp only [cellK, h3]; rw [gU_R]; simp only [gR, and_self, if_true]; rfl) (fun o' h1 h2 => by rw [gU_R]; exact gC_ne h1 (by rw [okA_o h]; exact h2))] at hP1
  exact k H1 locs1 ls hP1 hS1 hl
theorem G_cast {F i : Nat} {x y : Int32} (hC : gCx p s m args meth c cc nL own ret E) (d : decode cc pc = .ok (.castore, 1)) (hq : pc + 1 = q) (h : okA 0 F i x = true) (hb : isC y = true) (k : G p l e R s m args below meth c nL cells slots Q E w (gU σ F i x.toNatClampNeg y) q lv st): G p l e R s m args below meth c nL cells slots Q E w σ pc lv (.int y :: .int x :: .ref (eB E + oA F i) :: st) := by
  subst hq
  intro H locs ls hP hS hl
  obtain ⟨⟨h1, h2⟩, h3, h4⟩ := okA_s h
  refine va_cast (f := fun k => σ F i k) (cA := eT E 0) hC.1 hC.2.1 hC.2.2.2.2.2.1.1 hP gD hS (oA F i) 0 (by rw [gW_at h2, gC, h1]; simp only [cellK, h3]) rfl (inb_in h4) d (fun H1 locs1 hP1 _ hS1 => ?_)
  rw [isC_nar hb] at hP1
  rw [gW_set (σ' := gU σ F i x.toNatClampNeg y) (by rw [gC, h1]; simp only [cellK, h3]; rw [gU_R]; simp only [gR, and_self, if_true]; rfl) (fun o' h1 h2 => by rw [gU_R]; exact gC_ne h1 (by rw [okA_o h]; exact h2))] at hP1
  exact k H1 locs1 ls hP1 hS1 hl
theorem G_aldArt {x : Int32} (hC : gCx p s m args meth c cc nL own ret E) (d : decode cc pc = .ok (.aaload, 1)) (hq : pc + 1 = q) (h : inb x 24 = true) (k : G p l e R s m args below meth c nL cells slots Q E w σ q lv (.ref (eB E + oArt x.toNatClampNeg) :: st)): G p l e R s m args below meth c nL cells slots Q E w σ pc lv (.int x :: .ref (eB E + 4) :: st) := by
  subst hq
  intro H locs ls hP hS hl
  exact va_aldq (f := fun k => some (eB E + oArt k)) (cA := eT E 3) (C := RX0) hC.1 hC.2.1 hC.2.2.2.2.2.1.1 hP (4) 3 (by rw [gW_at (by decide)]; rfl) rfl (inb_in h) d (k H locs ls hP hS hl)
theorem G_aldVol {x : Int32} (hC : gCx p s m args meth c cc nL own ret E) (d : decode cc pc = .ok (.aaload, 1)) (hq : pc + 1 = q) (h : inb x 4 = true) (k : G p l e R s m args below meth c nL cells slots Q E w σ q lv (.ref (eB E + oVol x.toNatClampNeg) :: st)): G p l e R s m args below meth c nL cells slots Q E w σ pc lv (.int x :: .ref (eB E + 5) :: st) := by
  subst hq
  intro H locs ls hP hS hl
  exact va_aldq (f := fun k => some (eB E + oVol k)) (cA := eT E 6) (C := RX5) hC.1 hC.2.1 hC.2.2.2.2.2.1.1 hP (5) 6 (by rw [gW_at (by decide)]; rfl) rfl (inb_in h) d (k H locs ls hP hS hl)
theorem G_aldCon {x : Int32} (hC : gCx p s m args meth c cc nL own ret E) (d : decode cc pc = .ok (.aaload, 1)) (hq : pc + 1 = q) (h : inb x 6 = true) (k : G p l e R s m args below meth c nL cells slots Q E w σ q lv (.ref (eB E + oCon x.toNatClampNeg) :: st)): G p l e R s m args below meth c nL cells slots Q E w σ pc lv (.int x :: .ref (eB E + 6) :: st) := by
  subst hq
  intro H locs ls hP hS hl
  exact va_aldq (f := fun k => some (eB E + oCon k)) (cA := eT E 4) (C := RX1) hC.1 hC.2.1 hC.2.2.2.2.2.1.1 hP (6) 4 (by rw [gW_at (by decide)]; rfl) rfl (inb_in h) d (k H locs ls hP hS hl)
theorem G_aldRef {i : Nat} {x : Int32} (hC : gCx p s m args meth c cc nL own ret E) (d : decode cc pc = .ok (.aaload, 1)) (hq : pc + 1 = q) (hi : i < 24) (h : inb x 4 = true) (k : G p l e R s m args below meth c nL cells slots Q E w σ q lv (.ref (eB E + oRef (4 * i + x.toNatClampNeg)) :: st)): G p l e R s m args below meth c nL cells slots Q E w σ pc lv (.int x :: .ref (eB E + oRa i) :: st) := by
  subst hq
  intro H locs ls hP hS hl
  exact va_aldq (f := fun k => some (eB E + oRef (4 * i + k))) (cA := eT E 5) (C := RX4) hC.1 hC.2.1 hC.2.2.2.2.2.1.1 hP (oRa i) 5 (by rw [gW_at (dec_ra i hi).2, gC, (dec_ra i hi).1]; rfl) rfl (inb_in h) d (k H locs ls hP hS hl)
theorem G_fate {n : Nat} {nm : String} {idx : Nat} (hC : gCx p s m args meth c cc nL own ret E) (d : decode cc pc = .ok (.getstatic idx, 3)) (hq : pc + 3 = q) (hn : gFates[n]? = some nm) (hlink : Cond.fieldLink own idx RX2 nm gFd ∈ WALL) (k : G p l e R s m args below meth c nL cells slots Q E w σ q lv (.ref (eF E n) :: st)): G p l e R s m args below meth c nL cells slots Q E w σ pc lv st := by
  subst hq
  intro H locs ls hP hS hl
  exact va_gets hC.1 hC.2.1 (hC.2.2.2.2.2.1.2.2.2.2.2.2.1 n nm hn) hS hC.2.2.2.1 (hC.2.2.2.2.1 _ hlink) (fun _ h => h) d (k H locs ls hP hS hl)
end GR
end
section
/-! contracts over the store; entries, ends, calls, throws -/
def gRet (k : Nat) (E : gE) (v : Int32) : Option Value := match k with
  | 0 => none
  | 1 => some (.int v)
  | _ => some (.ref (eF E v.toNatClampNeg))
def gA (E : gE) : Nat → Prop := fun q => eB E ≤ q
def gP (E : gE) (w : Nat → Int64) (σ : gSt) (As : List Value) : Array Value → State → Prop := va_Pc As (fun U => va_P (eD E) vwCl (gW E w σ) U.heap ∧ gK E U)
def gQ (E : gE) (w : Nat → Int64) (k : Nat) (r : Int32 × gSt) : Array Value → State → Outcome → State → Prop := fun _ st o t => o = .returned (gRet k E r.1) ∧ va_P (eD E) vwCl (gW E w r.2) t.heap ∧ va_F (fun q => eB E ≤ q) st t
/-- a method that returns -/
def gM (l : Launch) (y : MethodName) (cc : ByteArray) (nL : Nat) (ret : Option FieldType) (rm : Room) (k : Nat) (E : gE) (w : Nat → Int64) (σ : gSt) (As : List Value) (r : Int32 × gSt) : Prop :=
  Met l y (Cond.code y cc nL ret :: WALL) rm (gP E w σ As) (gQ E w k r) 0 0 (fun q => eB E ≤ q)
theorem gP_blind {E : gE} {w : Nat → Int64} {σ : gSt} {As : List Value} : FrameBlind (gP E w σ As) := by
  intro a U g mk h
  obtain ⟨h1, h2, h3⟩ := h
  exact ⟨h1, h2, gK.same (U := U.calling g mk a) h3 rfl rfl⟩
theorem wall_good {y : MethodName} {cc : ByteArray} {nL : Nat} {ret : Option FieldType} (h : Cond.code y cc nL ret ∈ WALL) : GoodIn WALL (Cond.code y cc nL ret :: WALL) := by
  have k : ∀ w ∈ WALL, w ∈ WALL ∧ ((w.onTables && w.keeps) = true ∨ ∃ ty, w = .arrayClass ty) := fun w hw => ⟨hw, good_of_word (List.mem_filter.mp hw).2⟩
  intro w hw
  rcases List.mem_cons.mp hw with rfl | hw
  · exact k _ h
  · exact k _ hw
/-- exceptions: 1 illegal argument, 2 illegal state, 3 out of bounds -/
def gExN : Nat → String
  | 1 => gIAE
  | 2 => gISE
  | _ => gIOE
def gQX (E : gE) (w : Nat → Int64) (k : Nat) (r : Nat × Int32 × gSt) : Array Value → State → Outcome → State → Prop := fun _ st o t => r.1 = 0 ∧ o = .returned (gRet k E r.2.1) ∧ va_P (eD E) vwCl (gW E w r.2.2) t.heap ∧ va_F (fun q => eB E ≤ q) st t
def gXC (E : gE) (w : Nat → Int64) (r : Nat × Int32 × gSt) : String → State → State → Prop := fun En st t => ¬ r.1 = 0 ∧ En = gExN r.1 ∧ va_P (eD E) vwCl (gW E w r.2.2) t.heap ∧ va_F (fun q => eB E ≤ q) st t
/-- a method that returns or throws -/
def gMX (l : Launch) (y : MethodName) (cc : ByteArray) (nL : Nat) (ret : Option FieldType) (rm : Room) (k : Nat) (E : gE) (w : Nat → Int64) (σ : gSt) (As : List Value) (r : Nat × Int32 × gSt) : Prop :=
  vx_Met l y (Cond.code y cc nL ret :: WALL) rm (gP E w σ As) (gQX E w k r) (gXC E w r) rm.cells rm.slots (fun q => eB E ≤ q)
def bx (m : Option (Nat × Int32 × gSt)) (k : Int32 → gSt → Option (Nat × Int32 × gSt)) : Option (Nat × Int32 × gSt) := match m with
  | none => none
  | some r => if r.1 = 0 then k r.2.1 r.2.2 else some r
theorem bx_ok {m : Option (Nat × Int32 × gSt)} {k : Int32 → gSt → Option (Nat × Int32 × gSt)} {r : Nat × Int32 × gSt} (h : bx m k = some r) : ∃ z, m = some z ∧ (z.1 = 0 → k z.2.1 z.2.2 = some r) ∧ (¬ z.1 = 0 → z = r) := by
  cases m with
  | none => cases h
  | some z =>
    refine ⟨z, rfl, fun h0 => ?_, fun h0 => ?_⟩
    · have h1 : (if z.1 = 0 then k z.2.1 z.2.2 else some z) = some r := h
      rwa [if_pos h0] at h1
    · have h1 : (if z.1 = 0 then k z.2.1 z.2.2 else some z) = some r := h
      rw [if_neg h0] at h1
      exact Option.some.inj h1
section GK
variable {p : Program} {l : Launch} {e : Env} {R : Room} {s : State} {m : MethodId} {args : Array Value} {below : List Frame} {meth : Method} {c : Code} {nL cells slots : Nat} {Q : State → Prop} {E : gE} {w : Nat → Int64} {σ : gSt} {pc q : Nat} {lv lv' : List (Nat × Value)} {st st' : List Value} {cc : ByteArray} {own : String} {ret : Option FieldType}
theorem gM_of {y : MethodName} {rm : Room} {k : Nat} {As : List Value} {r : Int32 × gSt} (hy : plainName y.cls = true) (hlen : (lg_sl As).length ≤ nL)
    (body : ∀ (p : Program) (e : Env) (s : State) (m : MethodId) (args : Array Value) (below : List Frame) (meth : Method) (c : Code), gCx p s m args meth c cc nL y.cls ret E →
      G p l e rm s m args below meth c nL 0 0 (MQ below (gQ E w k r) args s 0 0 (fun q => eB E ≤ q)) E w σ 0 (lv_args 0 As) []) : gM l y cc nL ret rm k E w σ As r := by
  refine Met.ofW (cc := cc) (maxL := nL) (ret := ret) hy rfl ?_
  intro p e s m args below meth c s₁ B hml hv
  obtain ⟨rfl, hP, hK⟩ := hv
  have hts := atoms_spec (ws := Cond.code y cc nL ret :: WALL) B.pre
  have hC : gCx p s m As.toArray meth c cc nL y.cls ret E := ⟨B.exec, B.bytes, hml, findClass_of_methodNamed B.named, fun w hw => hts w (List.mem_cons_of_mem _ hw), hK, B.returns, B.notSynchronized⟩
  have h := body p e s m _ below meth c hC s.heap [] _ hP va_S.rf (lv_entry As hlen)
  rw [lg_entry_eq]
  exact h
theorem G_iret (hC : gCx p s m args meth c cc nL own ret E) {v : Int32} {ty : FieldType} {r : Int32 × gSt} (hr : some (v, σ) = some r) (ht : ret = some ty) (hn : narrow ty (.int v) = .int v) (d : decode cc pc = .ok (.ireturn, 1)) :
    G p l e R s m args below meth c nL cells slots (MQ below (gQ E w 1 r) args s cells slots (fun q => eB E ≤ q)) E w σ pc lv [.int v] := by
  intro H locs ls hP hS hl
  cases hr
  exact W.zret hC.1 hC.2.1 (hC.2.2.2.2.2.2.1.trans ht) hn (fun t ht hW => ⟨rfl, by rw [ht]; exact hP, hS.F ht⟩) hS.2.2 d hC.2.2.2.2.2.2.2
theorem G_vret (hC : gCx p s m args meth c cc nL own ret E) {v : Int32} {r : Int32 × gSt} (hr : some (v, σ) = some r) (ht : ret = none) (d : decode cc pc = .ok (.return_, 1)) :
    G p l e R s m args below meth c nL cells slots (MQ below (gQ E w 0 r) args s cells slots (fun q => eB E ≤ q)) E w σ pc lv [] := by
  intro H locs ls hP hS hl
  cases hr
  exact W.vret hC.1 hC.2.1 (hC.2.2.2.2.2.2.1.trans ht) (fun t ht hW => ⟨rfl, by rw [ht]; exact hP, hS.F ht⟩) hS.2.2 d hC.2.2.2.2.2.2.2
theorem G_aret (hC : gCx p s m args meth c cc nL own ret E) {v : Int32} {n : Nat} {nm : String} {r : Int32 × gSt} (hr : some (v, σ) = some r) (hv : v.toNatClampNeg = n) (ht : ret = some (.object nm)) (d : decode cc pc = .ok (.areturn, 1)) :
    G p l e R s m args below meth c nL cells slots (MQ below (gQ E w 2 r) args s cells slots (fun q => eB E ≤ q)) E w σ pc lv [.ref (eF E n)] := by
  intro H locs ls hP hS hl
  cases hr
  subst hv
  exact W.aret hC.1 hC.2.1 (hC.2.2.2.2.2.2.1.trans ht) (Or.inl ⟨_, rfl⟩) (Or.inr ⟨_, rfl⟩) (fun t ht hW => ⟨rfl, by rw [ht]; exact hP, hS.F ht⟩) hS.2.2 d hC.2.2.2.2.2.2.2
theorem G_run {H : Heap} {locs : List Loc} {ls : Array Slot} {a : Array Value} {k : Nat} {v : Int32} {σ1 : gSt} {st0 : List Value} (hr : va_Run p l e R s m args below meth c H locs cells slots 0 0 (F0 m pc ls st0) st (gQ E w k (v, σ1) a) (fun q => eB E ≤ q))
    (hS : va_S (fun q => eB E ≤ q) s.heap H locs) (hl : lv_has ls nL lv) (hst : (gRet k E v).toList ++ st = st') (kk : G p l e R s m args below meth c nL cells slots Q E w σ1 (pc + 3) lv st') : W p l e R s m args below meth c H locs cells slots Q (F0 m pc ls st0) := by
  subst hst
  intro T hT X
  obtain ⟨v', st₀, t, T', L, h0, X', hL, e1, e2, ⟨hv, hP1, hz, hk⟩, stp⟩ := hr T hT X
  cases hv
  rw [h0] at hz hk
  obtain ⟨t2, a1, b1⟩ := kk T'.heap (locs ++ L) ls (by rw [e1]; exact hP1)
    ⟨Nat.le_trans hS.1 (by rw [e1]; exact hz), fun q h1 h2 => by rw [e1, hk q (Nat.lt_of_lt_of_le h1 hS.1) h2]; exact hS.2.1 q h1 h2, fun q hq => by
      rcases List.mem_append.mp hq with h | h
      · exact hS.2.2 q h
      · exact hL q h⟩ hl T' rfl X'
  exact ⟨t2, stp t2 a1, b1⟩
/-- what a call's words are -/
def gcV (own : String) (idx : Nat) (C : String) (y : MethodName) (cc : ByteArray) (nL : Nat) (ret : Option FieldType) (n : Nat) : Prop :=
  Cond.code y cc nL ret ∈ WALL ∧ Cond.instanceMethod y ∈ WALL ∧ Cond.selects C y y ∈ WALL ∧ Cond.initialized y.cls ∈ WALL ∧ (y.cls ≠ "java/lang/invoke/MethodHandle" ∧ y.cls ≠ "java/lang/invoke/VarHandle" ∧ (parseMethodDescriptor y.desc).map (fun d => d.parameters.length) = some n)
def gcS (y : MethodName) (cc : ByteArray) (nL : Nat) (ret : Option FieldType) (n : Nat) : Prop :=
  Cond.code y cc nL ret ∈ WALL ∧ Cond.static y ∈ WALL ∧ Cond.initialized y.cls ∈ WALL ∧ (y.cls ≠ "java/lang/invoke/MethodHandle" ∧ y.cls ≠ "java/lang/invoke/VarHandle" ∧ (parseMethodDescriptor y.desc).map (fun d => d.parameters.length) = some n)
theorem gFix (hC : gCx p s m args meth c cc nL own ret E) : CallFix p m c cc nL s args WALL own := ⟨hC.1, hC.2.1, hC.2.2.1, hC.2.2.2.1, hC.2.2.2.2.1⟩
theorem gPre {H : Heap} {locs : List Loc} {a : Array Value} {As : List Value} (hK : gK E s) (hP : va_P (eD E) vwCl (gW E w σ) H) (hS : va_S (fun q => eB E ≤ q) s.heap H locs) (ha : a = As.toArray) : ∀ U : State, U.heap = H → s.WarmedH U.vm → gP E w σ As a U :=
  fun U hU hW => ⟨ha, by rw [hU]; exact hP, hK.warm hW hU hS⟩
theorem G_callV {y : MethodName} {cc' : ByteArray} {nL' : Nat} {ret' : Option FieldType} {rm' : Room} {k : Nat} {As : List Value} {o idx n ci N : Nat} {C : String} {T : u_T} {fs : List Value} {σ1 : gSt} {v : Int32} (hC : gCx p s m args meth c cc nL own ret E) (d : decode cc pc = .ok (.invokevirtual idx, 3)) (hq : pc + 3 = q) (hM : gM l y cc' nL' ret' rm' k E w σ (.ref (eB E + o) :: As) (v, σ1)) (ho : o < 606) (hc : gC E w σ o = .inr (ci, fs)) (hcl : vwCl[ci]? = some (C, T, N)) (hyC : y.cls = C) (hw : gcV own idx C y cc' nL' ret' n) (hlink : Cond.methodLink own idx y ∈ WALL) (hn : As.length = n) (hr0 : rm'.cells = 0 ∧ rm'.slots = 0) (hR : rm'.frames + 1 ≤ R.frames ∧ 8 + (nL' + 11) + rm'.locals ≤ R.locals) (hsum : (st.map fun v => v.category).sum ≤ 8) (hcap : cells ≤ R.cells ∧ slots ≤ R.slots) (hst : (gRet k E v).toList ++ st = st') (kk : G p l e R s m args below meth c nL cells slots Q E w σ1 q lv st'): G p l e R s m args below meth c nL cells slots Q E w σ pc lv (As.reverse ++ .ref (eB E + o) :: st) := by
  subst hq
  intro H locs ls hP hS hl
  have hts := hC.2.2.2.2.1
  have cw : CallW R s args own C idx y cc' nL' ret' (Cond.code y cc' nL' ret' :: WALL) rm' 0 0 n := ⟨callB_of n hts (wall_good hw.1) rfl hr0.1 hr0.2 (hts _ hw.2.2.2.1) (hts _ hlink) hw.2.2.2.2 hR, hts _ hw.2.1, hts _ hw.2.2.1⟩
  exact G_run (va_runV (gFix hC) hM cw ⟨gP_blind, va_recv hC.2.2.2.2.2.1.1 hP hcl (by rw [gW_at ho, hc]), gPre hC.2.2.2.2.2.1 hP hS rfl⟩ rfl hn hl.1 rfl (lv_room hsum) d hcap) hS hl hst kk
theorem G_callVN {y : MethodName} {cc' : ByteArray} {nL' : Nat} {ret' : Option FieldType} {rm' : Room} {k : Nat} {As : List Value} {o idx n ci N : Nat} {C host : String} {T : u_T} {fs : List Value} {σ1 : gSt} {v : Int32} (hC : gCx p s m args meth c cc nL own ret E) (d : decode cc pc = .ok (.invokevirtual idx, 3)) (hq : pc + 3 = q) (hM : gM l y cc' nL' ret' rm' k E w σ (.ref (eB E + o) :: As) (v, σ1)) (ho : o < 606) (hc : gC E w σ o = .inr (ci, fs)) (hcl : vwCl[ci]? = some (C, T, N)) (hyC : y.cls = C) (hw : gcV own idx C y cc' nL' ret' n) (hlink : Cond.methodLinkNest own idx y host ∈ NWL) (hn : As.length = n) (hr0 : rm'.cells = 0 ∧ rm'.slots = 0) (hR : rm'.frames + 1 ≤ R.frames ∧ 8 + (nL' + 11) + rm'.locals ≤ R.locals) (hsum : (st.map fun v => v.category).sum ≤ 8) (hcap : cells ≤ R.cells ∧ slots ≤ R.slots) (hst : (gRet k E v).toList ++ st = st') (kk : G p l e R s m args below meth c nL cells slots Q E w σ1 q lv st'): G p l e R s m args below meth c nL cells slots Q E w σ pc lv (As.reverse ++ .ref (eB E + o) :: st) := by
  subst hq
  intro H locs ls hP hS hl
  have hts := hC.2.2.2.2.1
  have cw := va_cnB (R := R) (s := s) (args := args) (own := own) (index := idx) (host := host) n hts (wall_good hw.1) rfl hr0.1 hr0.2 (hC.2.2.2.2.2.1.2.1 _ hlink) (hts _ hw.2.2.2.1) hw.2.2.2.2 hR
  exact G_run (va_runVN (gFix hC) hM ⟨cw, hts _ hw.2.1, hts _ hw.2.2.1⟩ ⟨gP_blind, va_recv hC.2.2.2.2.2.1.1 hP hcl (by rw [gW_at ho, hc]), gPre hC.2.2.2.2.2.1 hP hS rfl⟩ rfl hn hl.1 rfl (lv_room hsum) d hcap) hS hl hst kk
theorem G_callS {y : MethodName} {cc' : ByteArray} {nL' : Nat} {ret' : Option FieldType} {rm' : Room} {k : Nat} {As : List Value} {idx n : Nat} {σ1 : gSt} {v : Int32} (hC : gCx p s m args meth c cc nL own ret E) (d : decode cc pc = .ok (.invokestatic idx, 3)) (hq : pc + 3 = q) (hM : gM l y cc' nL' ret' rm' k E w σ As (v, σ1)) (hw : gcS y cc' nL' ret' n) (hlink : Cond.methodLink own idx y ∈ WALL) (hn : As.length = n) (hr0 : rm'.cells = 0 ∧ rm'.slots = 0) (hR : rm'.frames + 1 ≤ R.frames ∧ 8 + (nL' + 11) + rm'.locals ≤ R.locals) (hsum : (st.map fun v => v.category).sum ≤ 8) (hcap : cells ≤ R.cells ∧ slots ≤ R.slots) (hst : (gRet k E v).toList ++ st = st') (kk : G p l e R s m args below meth c nL cells slots Q E w σ1 q lv st'): G p l e R s m args below meth c nL cells slots Q E w σ pc lv (As.reverse ++ st) := by
  subst hq
  intro H locs ls hP hS hl
  have hts := hC.2.2.2.2.1
  have cw : CallB R s args own idx y cc' nL' ret' (Cond.code y cc' nL' ret' :: WALL) rm' 0 0 n ∧ (Cond.static y).before args s = true := ⟨callB_of n hts (wall_good hw.1) rfl hr0.1 hr0.2 (hts _ hw.2.2.1) (hts _ hlink) hw.2.2.2 hR, hts _ hw.2.1⟩
  exact G_run (va_runS (gFix hC) hM cw ⟨gP_blind, gPre hC.2.2.2.2.2.1 hP hS rfl⟩ rfl hn hl.1 rfl (lv_room hsum) d hcap) hS hl hst kk
theorem G_callSN {y : MethodName} {cc' : ByteArray} {nL' : Nat} {ret' : Option FieldType} {rm' : Room} {k : Nat} {As : List Value} {idx n : Nat} {host : String} {σ1 : gSt} {v : Int32} (hC : gCx p s m args meth c cc nL own ret E) (d : decode cc pc = .ok (.invokestatic idx, 3)) (hq : pc + 3 = q) (hM : gM l y cc' nL' ret' rm' k E w σ As (v, σ1)) (hw : gcS y cc' nL' ret' n) (hlink : Cond.methodLinkNest own idx y host ∈ NWL) (hn : As.length = n) (hr0 : rm'.cells = 0 ∧ rm'.slots = 0) (hR : rm'.frames + 1 ≤ R.frames ∧ 8 + (nL' + 11) + rm'.locals ≤ R.locals) (hsum : (st.map fun v => v.category).sum ≤ 8) (hcap : cells ≤ R.cells ∧ slots ≤ R.slots) (hst : (gRet k E v).toList ++ st = st') (kk : G p l e R s m args below meth c nL cells slots Q E w σ1 q lv st'): G p l e R s m args below meth c nL cells slots Q E w σ pc lv (As.reverse ++ st) := by
  subst hq
  intro H locs ls hP hS hl
  have hts := hC.2.2.2.2.1
  have cw := va_cnB (R := R) (s := s) (args := args) (own := own) (index := idx) (host := host) n hts (wall_good hw.1) rfl hr0.1 hr0.2 (hC.2.2.2.2.2.1.2.1 _ hlink) (hts _ hw.2.2.1) hw.2.2.2 hR
  exact G_run (va_runSN (gFix hC) hM ⟨cw, hts _ hw.2.1, trivial⟩ ⟨gP_blind, gPre hC.2.2.2.2.2.1 hP hS rfl⟩ rfl hn hl.1 rfl (lv_room hsum) d hcap) hS hl hst kk
theorem gMX_of {y : MethodName} {rm : Room} {k : Nat} {As : List Value} {r : Nat × Int32 × gSt} (hy : plainName y.cls = true) (hlen : (lg_sl As).length ≤ nL)
    (body : ∀ (p : Program) (e : Env) (s : State) (m : MethodId) (args : Array Value) (below : List Frame) (meth : Method) (c : Code), gCx p s m args meth c cc nL y.cls ret E → (∀ x ∈ c.exceptionTable.toList, False) →
      G p l e rm s m args below meth c nL 0 0 (vx_MQ below (gQX E w k r) (gXC E w r) args s rm.cells rm.slots (fun q => eB E ≤ q)) E w σ 0 (lv_args 0 As) []) : gMX l y cc nL ret rm k E w σ As r := by
  refine vx_ofW (cc := cc) (maxL := nL) (ret := ret) hy rfl ?_
  intro p e s m args below meth c s₁ B hml ht hv
  obtain ⟨rfl, hP, hK⟩ := hv
  have hts := atoms_spec (ws := Cond.code y cc nL ret :: WALL) B.pre
  have hC : gCx p s m As.toArray meth c cc nL y.cls ret E := ⟨B.exec, B.bytes, hml, findClass_of_methodNamed B.named, fun w hw => hts w (List.mem_cons_of_mem _ hw), hK, B.returns, B.notSynchronized⟩
  have h := body p e s m _ below meth c hC ht s.heap [] _ hP va_S.rf (lv_entry As hlen)
  rw [lg_entry_eq]
  exact h
theorem G_widen {k n : Nat} (h1 : cells ≤ k) (h2 : slots ≤ n) (kk : G p l e R s m args below meth c nL k n Q E w σ pc lv st) : G p l e R s m args below meth c nL cells slots Q E w σ pc lv st :=
  fun H locs ls hP hS hl => W.widen h1 h2 (kk H locs ls hP hS hl)
theorem G_iretX (hC : gCx p s m args meth c cc nL own ret E) {v : Int32} {mc ms : Nat} {ty : FieldType} {r : Nat × Int32 × gSt} (hr : some (0, v, σ) = some r) (ht : ret = some ty) (hn : narrow ty (.int v) = .int v) (hc : cells ≤ mc) (hs : slots ≤ ms) (d : decode cc pc = .ok (.ireturn, 1)) :
    G p l e R s m args below meth c nL cells slots (vx_MQ below (gQX E w 1 r) (gXC E w r) args s mc ms (fun q => eB E ≤ q)) E w σ pc lv [.int v] := by
  intro H locs ls hP hS hl
  cases hr
  exact W.widen hc hs (vx_ret (W.zret hC.1 hC.2.1 (hC.2.2.2.2.2.2.1.trans ht) hn (fun t ht hW => ⟨rfl, rfl, by rw [ht]; exact hP, hS.F ht⟩) hS.2.2 d hC.2.2.2.2.2.2.2))
theorem G_vretX (hC : gCx p s m args meth c cc nL own ret E) {v : Int32} {mc ms : Nat} {r : Nat × Int32 × gSt} (hr : some (0, v, σ) = some r) (ht : ret = none) (hc : cells ≤ mc) (hs : slots ≤ ms) (d : decode cc pc = .ok (.return_, 1)) :
    G p l e R s m args below meth c nL cells slots (vx_MQ below (gQX E w 0 r) (gXC E w r) args s mc ms (fun q => eB E ≤ q)) E w σ pc lv [] := by
  intro H locs ls hP hS hl
  cases hr
  exact W.widen hc hs (vx_ret (W.vret hC.1 hC.2.1 (hC.2.2.2.2.2.2.1.trans ht) (fun t ht hW => ⟨rfl, rfl, by rw [ht]; exact hP, hS.F ht⟩) hS.2.2 d hC.2.2.2.2.2.2.2))
theorem G_runX {H : Heap} {locs : List Loc} {ls : Array Slot} {a : Array Value} {k mc ms : Nat} {z : Nat × Int32 × gSt} {st0 : List Value} (hr : vx_Run p l e R s m args below meth c H locs cells slots mc ms (F0 m pc ls st0) st (gQX E w k z a) (gXC E w z) (fun q => eB E ≤ q))
    (hS : va_S (fun q => eB E ≤ q) s.heap H locs) (hl : lv_has ls nL lv) (hst : z.1 = 0 → (gRet k E z.2.1).toList ++ st = st') (kk : z.1 = 0 → G p l e R s m args below meth c nL (cells + mc) (slots + ms) Q E w z.2.2 (pc + 3) lv st')
    (kx : ¬ z.1 = 0 → ∀ (H1 : Heap) (locs1 : List Loc) (q9 : Addr) (ce : Cell), va_P (eD E) vwCl (gW E w z.2.2) H1 → va_S (fun q => eB E ≤ q) s.heap H1 locs1 → H1[q9]? = some ce → ce.vm = .none → s.vm.findClass (gExN z.1) = some ce.cls → vx_W p l e R s m args below meth c H1 locs1 (cells + mc) (slots + ms) Q (F0 m pc ls st) q9) : W p l e R s m args below meth c H locs cells slots Q (F0 m pc ls st0) := by
  intro T hT X
  have keep : ∀ (st₀ t T' : State) (L : List Loc), st₀.heap = H → T'.heap = t.heap → (∀ q ∈ L, eB E ≤ q.base) → va_F (fun q => eB E ≤ q) st₀ t → va_S (fun q => eB E ≤ q) s.heap T'.heap (locs ++ L) := fun st₀ t T' L h0 e1 hL hF => (vx_keep (free := fun q => eB E ≤ q) h0 e1 hS (fun _ _ h => h) (fun _ h => h) hL hF).2.2
  rcases hr T hT X with ⟨v', st₀, t, T', L, h0, X', hL, e1, e2, ⟨hz, hv, hP1, hF⟩, stp⟩ | ⟨q9, st₀, t, T', L, En, ce, h0, X', hL, e1, e2, ⟨hz, rfl, hP1, hF⟩, hce, hcv, hcl, stp⟩
  · cases hv
    obtain ⟨t2, a1, b1⟩ := kk hz T'.heap (locs ++ L) ls (by rw [e1]; exact hP1) (keep st₀ t T' L h0 e1 hL hF) hl T' rfl X'
    have hst := hst hz
    subst hst
    exact ⟨t2, stp t2 a1, b1⟩
  · obtain ⟨t2, a1, b1⟩ := kx hz T'.heap (locs ++ L) q9 ce (by rw [e1]; exact hP1) (keep st₀ t T' L h0 e1 hL hF) (by rw [e1]; exact hce) hcv hcl T' rfl X'
    exact ⟨t2, stp.trans a1, b1⟩
/-- a call that may throw, of a method that doesn't catch -/
theorem G_callVX {y : MethodName} {cc' : ByteArray} {nL' : Nat} {ret' : Option FieldType} {rm' : Room} {k k0 : Nat} {As : List Value} {o idx n ci N MC MS : Nat} {C : String} {T : u_T} {fs : List Value} {z r : Nat × Int32 × gSt} (hC : gCx p s m args meth c cc nL own ret E) (d : decode cc pc = .ok (.invokevirtual idx, 3)) (hq : pc + 3 = q) (hX : ∀ x ∈ c.exceptionTable.toList, False) (hM : gMX l y cc' nL' ret' rm' k E w σ (.ref (eB E + o) :: As) z) (ho : o < 606) (hc : gC E w σ o = .inr (ci, fs)) (hcl : vwCl[ci]? = some (C, T, N)) (hyC : y.cls = C) (hw : gcV own idx C y cc' nL' ret' n) (hlink : Cond.methodLink own idx y ∈ WALL) (hn : As.length = n) (hR : rm'.frames + 1 ≤ R.frames ∧ 8 + (nL' + 11) + rm'.locals ≤ R.locals) (hsum : (st.map fun v => v.category).sum ≤ 8) (hcap : cells + rm'.cells ≤ R.cells ∧ slots + rm'.slots ≤ R.slots) (hM2 : cells + rm'.cells ≤ MC ∧ slots + rm'.slots ≤ MS) (hst : (gRet k E z.2.1).toList ++ st = st') (hz : ¬ z.1 = 0 → z = r) (kk : z.1 = 0 → G p l e R s m args below meth c nL (cells + rm'.cells) (slots + rm'.slots) (vx_MQ below (gQX E w k0 r) (gXC E w r) args s MC MS (fun q => eB E ≤ q)) E w z.2.2 q lv st'): G p l e R s m args below meth c nL cells slots (vx_MQ below (gQX E w k0 r) (gXC E w r) args s MC MS (fun q => eB E ≤ q)) E w σ pc lv (As.reverse ++ .ref (eB E + o) :: st) := by
  subst hq
  intro H locs ls hP hS hl
  have hts := hC.2.2.2.2.1
  have cw : CallW R s args own C idx y cc' nL' ret' (Cond.code y cc' nL' ret' :: WALL) rm' rm'.cells rm'.slots n := ⟨callB_of n hts (wall_good hw.1) rfl rfl rfl (hts _ hw.2.2.2.1) (hts _ hlink) hw.2.2.2.2 hR, hts _ hw.2.1, hts _ hw.2.2.1⟩
  refine G_runX (vx_runV (gFix hC) hM cw ⟨gP_blind, va_recv hC.2.2.2.2.2.1.1 hP hcl (by rw [gW_at ho, hc]), gPre hC.2.2.2.2.2.1 hP hS rfl⟩ rfl hn hl.1 rfl (lv_room hsum) d hcap) hS hl (fun _ => hst) kk (fun h0 H1 locs1 q9 ce hP1 hS1 hce hcv hcl => ?_)
  have e := hz h0
  subst e
  exact vx_out (fun x hx => (hX x hx).elim) hC.2.2.2.2.2.2.2 hce hcv hcl (fun t ht _ => ⟨h0, rfl, by rw [ht]; exact hP1, hS1.F ht⟩) hS1.2.2 hM2.1 hM2.2
theorem G_callSX {y : MethodName} {cc' : ByteArray} {nL' : Nat} {ret' : Option FieldType} {rm' : Room} {k k0 : Nat} {As : List Value} {idx n MC MS : Nat} {z r : Nat × Int32 × gSt} (hC : gCx p s m args meth c cc nL own ret E) (d : decode cc pc = .ok (.invokestatic idx, 3)) (hq : pc + 3 = q) (hX : ∀ x ∈ c.exceptionTable.toList, False) (hM : gMX l y cc' nL' ret' rm' k E w σ As z) (hw : gcS y cc' nL' ret' n) (hlink : Cond.methodLink own idx y ∈ WALL) (hn : As.length = n) (hR : rm'.frames + 1 ≤ R.frames ∧ 8 + (nL' + 11) + rm'.locals ≤ R.locals) (hsum : (st.map fun v => v.category).sum ≤ 8) (hcap : cells + rm'.cells ≤ R.cells ∧ slots + rm'.slots ≤ R.slots) (hM2 : cells + rm'.cells ≤ MC ∧ slots + rm'.slots ≤ MS) (hst : (gRet k E z.2.1).toList ++ st = st') (hz : ¬ z.1 = 0 → z = r) (kk : z.1 = 0 → G p l e R s m args below meth c nL (cells + rm'.cells) (slots + rm'.slots) (vx_MQ below (gQX E w k0 r) (gXC E w r) args s MC MS (fun q => eB E ≤ q)) E w z.2.2 q lv st'): G p l e R s m args below meth c nL cells slots (vx_MQ below (gQX E w k0 r) (gXC E w r) args s MC MS (fun q => eB E ≤ q)) E w σ pc lv (As.reverse ++ st) := by
  subst hq
  intro H locs ls hP hS hl
  have hts := hC.2.2.2.2.1
  have cw : CallB R s args own idx y cc' nL' ret' (Cond.code y cc' nL' ret' :: WALL) rm' rm'.cells rm'.slots n ∧ (Cond.static y).before args s = true := ⟨callB_of n hts (wall_good hw.1) rfl rfl rfl (hts _ hw.2.2.1) (hts _ hlink) hw.2.2.2 hR, hts _ hw.2.1⟩
  refine G_runX (vx_runS (gFix hC) hM cw ⟨gP_blind, gPre hC.2.2.2.2.2.1 hP hS rfl⟩ rfl hn hl.1 rfl (lv_room hsum) d hcap) hS hl (fun _ => hst) kk (fun h0 H1 locs1 q9 ce hP1 hS1 hce hcv hcl => ?_)
  have e := hz h0
  subst e
  exact vx_out (fun x hx => (hX x hx).elim) hC.2.2.2.2.2.2.2 hce hcv hcl (fun t ht _ => ⟨h0, rfl, by rw [ht]; exact hP1, hS1.F ht⟩) hS1.2.2 hM2.1 hM2.2
/-- throw new E("text"), in RX6 -/
theorem G_throw (hC : gCx p s m args meth c cc nL RX6 ret E) (hX : ∀ x ∈ c.exceptionTable.toList, False) (hflag : l.stackTraces = false) {ik is ic k0 n MC MS : Nat} {text : String} {r : Nat × Int32 × gSt}
    (hr : some (n, 0, σ) = some r) (hn : ¬ n = 0) (hfit : Bundle.fit (gExN n) = true) (hlink : Cond.classLink RX6 ik (gExN n) ∈ WALL) (hini : Cond.initialized (gExN n) ∈ WALL) (htx : (is, text) ∈ gTxt)
    (hat : ∀ w ∈ vx_atS RX6 ic (gExN n) gUp, w ∈ WALL ∨ w ∈ XWL) (hot : ∀ w ∈ vx_atS RX6 ic (gExN n) gUp, vx_ot w = true)
    (d0 : decode cc pc = .ok (.new ik, 3)) (d3 : decode cc (pc + 3) = .ok (.dup, 1)) (d4 : decode cc (pc + 4) = .ok (.ldc is, 2)) (d6 : decode cc (pc + 6) = .ok (.invokespecial ic, 3)) (d9 : decode cc (pc + 9) = .ok (.athrow, 1))
    (hf : 5 < R.frames) (hloc : (st.map fun v => v.category).sum + 82 ≤ R.locals) (hcap : cells + 1 ≤ R.cells ∧ slots + 6 ≤ R.slots) (hM2 : cells + 1 ≤ MC ∧ slots + 6 ≤ MS) :
    G p l e R s m args below meth c nL cells slots (vx_MQ below (gQX E w k0 r) (gXC E w r) args s MC MS (fun q => eB E ≤ q)) E w σ pc lv st := by
  intro H locs ls hP hS hl
  cases hr
  have hts := hC.2.2.2.2.1
  have hK := hC.2.2.2.2.2.1
  have hg : ∀ w ∈ Cond.classLink RX6 ik (gExN n) :: Cond.initialized (gExN n) :: vx_atS RX6 ic (gExN n) gUp, vx_ot w = true := by
    intro w hw
    rcases List.mem_cons.mp hw with rfl | hw
    · rfl
    · rcases List.mem_cons.mp hw with rfl | hw
      · rfl
      · exact hot w hw
  refine vx_throwS hC.1 hC.2.1 hflag hC.2.2.2.1 hfit (by decide) (hts _ hlink) (hts _ hini) (hK.2.2.2.1 _ htx) (fun w hw => ?_) hg hK.2.2.2.2.1 hK.2.2.2.2.2.1 hS (hl.1.trans hC.2.2.1.symm) d0 d3 d4 d6 d9 (fun x hx => (hX x hx).elim) (by exact hf) (by exact hloc) hcap.1 hcap.2 hC.2.2.2.2.2.2.2 (fun t hA h1 h2 => ⟨hn, rfl, hP.kept (fun k q hk => h2 q.1 ((hP k q hk).lt)), Nat.le_trans hS.1 h1, fun q h3 h4 => ?_⟩) hS.2.2 hM2.1 hM2.2
  · rcases hat w hw with h | h
    · exact hts _ h
    · have h5 := XWL_ok w h
      simp only [Bool.and_eq_true] at h5
      exact va_Nw.use h5.1 (hK.2.2.1 w h)
  · rw [h2 q (Nat.lt_of_lt_of_le h3 hS.1)]
    exact hS.2.1 q h3 h4
/-- Math.max -/
theorem G_max {idx : Nat} {x y v : Int32} (hC : gCx p s m args meth c cc nL own ret E) (d : decode cc pc = .ok (.invokestatic idx, 3)) (hq : pc + 3 = q) (hlink : Cond.methodLink own idx Lib.Math.max.name ∈ WALL) (hstat : Cond.static Lib.Math.max.name ∈ WALL) (hini : Cond.initialized "java/lang/Math" ∈ WALL) (hcode : Cond.code Lib.Math.max.name Lib.Math.max.code 2 (some .int) ∈ WALL) (hf : 1 ≤ R.frames) (hloc : (st.map fun v => v.category).sum + 13 ≤ R.locals) (hcap : cells ≤ R.cells ∧ slots ≤ R.slots) (hv : (if x < y then y else x) = v) (kk : G p l e R s m args below meth c nL cells slots Q E w σ q lv (.int v :: st)): G p l e R s m args below meth c nL cells slots Q E w σ pc lv (.int y :: .int x :: st) := by
  subst hq
  subst hv
  intro H locs ls hP hS hl
  have hts := hC.2.2.2.2.1
  exact va_mmax hC.1 hC.2.1 (hC.2.2.1.trans hl.1.symm) hC.2.2.2.1 (hts _ hlink) (hts _ hstat) (hts _ hini) (hts _ hcode) hf hloc hcap.1 hcap.2 d (kk H locs ls hP hS hl)
/-- System.arraycopy of an int-like array -/
def okCp (t F i F' i' : Nat) (sp dp n : Int32) (f : Nat → Int32) : Bool := isArr F && Nat.blt F 206 && Nat.beq (tA F) t && Nat.blt i (nA F) && isArr F' && Nat.blt F' 206 && Nat.beq (tA F') t && Nat.blt i' (nA F') && decide (0 ≤ sp) && decide (0 ≤ dp) && decide (0 ≤ n) && Nat.ble (sp.toNatClampNeg + n.toNatClampNeg) (lA F) && Nat.ble (dp.toNatClampNeg + n.toNatClampNeg) (lA F') && (Nat.beq t 1 || (List.range n.toNatClampNeg).all (fun k => isC (f (sp.toNatClampNeg + k))))
theorem G_copy {F i F' i' idx t : Nat} {sp dp n : Int32} (hC : gCx p s m args meth c cc nL own ret E) (ht : t = 0 ∨ t = 1) (d : decode cc pc = .ok (.invokestatic idx, 3)) (hq : pc + 3 = q) (h : okCp t F i F' i' sp dp n (fun k => σ F i k) = true) (hlink : Cond.methodLink own idx arraycopyName ∈ WALL) (hnat : Cond.native arraycopyName ∈ WALL) (hstat : Cond.static arraycopyName ∈ WALL) (hini : Cond.initialized "java/lang/System" ∈ WALL) (hf : 1 ≤ R.frames) (hloc : (st.map fun v => v.category).sum + (nativeFrameWords "java/lang/System" "arraycopy" 5 + 11) ≤ R.locals) (kk : G p l e R s m args below meth c nL cells slots Q E w (gR σ F' i' (va_cpy (fun k => σ F i k) (fun k => σ F' i' k) sp.toNatClampNeg dp.toNatClampNeg n.toNatClampNeg)) q lv st): G p l e R s m args below meth c nL cells slots Q E w σ pc lv (.int n :: .int dp :: .ref (eB E + oA F' i') :: .int sp :: .ref (eB E + oA F i) :: st) := by
  subst hq
  intro H locs ls hP hS hl
  have hts := hC.2.2.2.2.1
  simp only [okCp, Bool.and_eq_true, decide_eq_true_eq] at h
  obtain ⟨⟨⟨⟨⟨⟨⟨⟨⟨⟨⟨⟨⟨a1, a2⟩, a3⟩, a4⟩, b1⟩, b2⟩, b3⟩, b4⟩, c1⟩, c2⟩, c3⟩, c4⟩, c5⟩, c6⟩ := h
  obtain ⟨e1, e2⟩ := dec_arr F (Nat.le_of_ble_eq_true a2) i (Nat.le_of_ble_eq_true a4) a1
  obtain ⟨f1, f2⟩ := dec_arr F' (Nat.le_of_ble_eq_true b2) i' (Nat.le_of_ble_eq_true b4) b1
  have ht1 := Nat.eq_of_beq_eq_true a3
  have ht2 := Nat.eq_of_beq_eq_true b3
  have hty : (gTys E)[t]? = some (eT E t, if t = 0 then .char else .int) := by rcases ht with rfl | rfl <;> rfl
  refine va_copyi (f := fun k => σ F i k) (g := fun k => σ F' i' k) (c0 := eT E t) (c1 := eT E t) (ty := if t = 0 then .char else .int) hC.1 hC.2.1 (hC.2.2.1.trans hl.1.symm) hC.2.2.2.1 (hts _ hlink) (hts _ hnat) (hts _ hstat) (hts _ hini) hC.2.2.2.2.2.1.1 hP gD hS (oA F i) (oA F' i') t t (by rw [gW_at e2, gC, e1]; simp only [cellK, ht1]) (by rw [gW_at f2, gC, f1]; simp only [cellK, ht2]) hty hty (by rcases ht with rfl | rfl <;> rfl)
    (Int32.not_lt.mpr c1) (Int32.not_lt.mpr c2) (Int32.not_lt.mpr c3) (Nat.le_of_ble_eq_true c4) (Nat.le_of_ble_eq_true c5) (fun k hk => ?_) hf hloc d (fun H1 locs1 hP1 _ hS1 => ?_)
  · rcases ht with rfl | rfl
    · simp only [Bool.or_eq_true, List.all_eq_true, List.mem_range] at c6
      rcases c6 with c6 | c6
      · cases c6
      · exact isC_fits (c6 k hk)
    · rfl
  · rw [gW_set (σ' := gR σ F' i' (va_cpy (fun k => σ F i k) (fun k => σ F' i' k) sp.toNatClampNeg dp.toNatClampNeg n.toNatClampNeg)) (by rw [gC, f1]; simp only [cellK, ht2]; simp only [gR, and_self, if_true]) (fun o' h1 h2 => gC_ne h1 (by simp only [oOf, b1, cond_true]; exact h2))] at hP1
    exact kk H1 locs1 ls hP1 hS1 hl
end GK
end
section
/-! by program (wip/whole/gen_links.py): rooms, the cells of the kinds, a row a link of the pools -/
abbrev rm_X0_isBlind : Room := { frames := 0, cells := 0, slots := 0, locals := 0 }
abbrev rm_X0_isReady : Room := { frames := 1, cells := 0, slots := 0, locals := 20 }
abbrev rm_X0_isReadIn : Room := { frames := 0, cells := 0, slots := 0, locals := 0 }
abbrev rm_X0_state : Room := { frames := 0, cells := 0, slots := 0, locals := 0 }
abbrev rm_X0_putToPress : Room := { frames := 1, cells := 0, slots := 0, locals := 60 }
abbrev rm_X0_countReferences : Room := { frames := 0, cells := 0, slots := 0, locals := 0 }
abbrev rm_X1_addToWrite : Room := { frames := 0, cells := 0, slots := 0, locals := 0 }
abbrev rm_X1_removeFirst : Room := { frames := 1, cells := 0, slots := 0, locals := 60 }
abbrev rm_X1_monthsFor : Room := { frames := 1, cells := 0, slots := 0, locals := 24 }
abbrev rm_X3_add : Room := { frames := 1, cells := 0, slots := 0, locals := 20 }
abbrev rm_X3_clear : Room := { frames := 0, cells := 0, slots := 0, locals := 0 }
abbrev rm_X3_take : Room := { frames := 1, cells := 0, slots := 0, locals := 60 }
abbrev rm_X3_hasLetter : Room := { frames := 0, cells := 0, slots := 0, locals := 0 }
abbrev rm_X3_firstLetter : Room := { frames := 0, cells := 0, slots := 0, locals := 0 }
abbrev rm_X3_compareBy : Room := { frames := 0, cells := 0, slots := 0, locals := 0 }
abbrev rm_X6_sign : Room := { frames := 6, cells := 1, slots := 6, locals := 90 }
abbrev rm_X6_erase : Room := { frames := 1, cells := 0, slots := 0, locals := 20 }
abbrev rm_X6_rule : Room := { frames := 6, cells := 1, slots := 6, locals := 90 }
abbrev rm_X6_article : Room := { frames := 7, cells := 2, slots := 12, locals := 110 }
abbrev rm_X6_under : Room := { frames := 7, cells := 3, slots := 18, locals := 110 }
abbrev rm_X6_refer : Room := { frames := 7, cells := 2, slots := 12, locals := 111 }
abbrev rm_X6_use : Room := { frames := 7, cells := 3, slots := 18, locals := 111 }
abbrev rm_X6_change : Room := { frames := 7, cells := 1, slots := 6, locals := 110 }
abbrev rm_X6_forbid : Room := { frames := 7, cells := 2, slots := 12, locals := 111 }
abbrev rm_X6_volume : Room := { frames := 6, cells := 1, slots := 6, locals := 90 }
abbrev rm_X6_contributor : Room := { frames := 6, cells := 1, slots := 6, locals := 90 }
abbrev rm_X6_quarrel : Room := { frames := 7, cells := 3, slots := 18, locals := 111 }
abbrev rm_X6_give : Room := { frames := 7, cells := 3, slots := 18, locals := 117 }
abbrev rm_X6_die : Room := { frames := 7, cells := 2, slots := 12, locals := 111 }
abbrev rm_X6_pass : Room := { frames := 6, cells := 1, slots := 6, locals := 139 }
abbrev rm_X6_print : Room := { frames := 7, cells := 2, slots := 12, locals := 115 }
abbrev rm_X6_supplement : Room := { frames := 6, cells := 1, slots := 6, locals := 116 }
abbrev rm_X6_month : Room := { frames := 0, cells := 0, slots := 0, locals := 0 }
abbrev rm_X6_at : Room := { frames := 6, cells := 1, slots := 6, locals := 90 }
abbrev rm_X6_about : Room := { frames := 7, cells := 2, slots := 12, locals := 111 }
abbrev rm_X6_struck : Room := { frames := 1, cells := 0, slots := 0, locals := 23 }
abbrev rm_X6_errata : Room := { frames := 7, cells := 1, slots := 6, locals := 111 }
abbrev rm_X6_open : Room := { frames := 5, cells := 0, slots := 0, locals := 115 }
abbrev rm_X6_contradictions : Room := { frames := 2, cells := 0, slots := 0, locals := 47 }
abbrev rm_X6_readAnew : Room := { frames := 6, cells := 0, slots := 0, locals := 138 }
abbrev rm_X6_synopsis : Room := { frames := 7, cells := 1, slots := 6, locals := 110 }
abbrev rm_X6_requireArticle : Room := { frames := 6, cells := 1, slots := 6, locals := 90 }
abbrev rm_X6_requireVolume : Room := { frames := 6, cells := 1, slots := 6, locals := 90 }
abbrev rm_X6_requireContributor : Room := { frames := 6, cells := 1, slots := 6, locals := 90 }
abbrev rm_X6_requireSubject : Room := { frames := 6, cells := 1, slots := 6, locals := 90 }
abbrev rm_X6_requireFact : Room := { frames := 6, cells := 1, slots := 6, locals := 90 }
abbrev rm_X6_isLetter : Room := { frames := 0, cells := 0, slots := 0, locals := 0 }
abbrev rm_X6_isGap : Room := { frames := 0, cells := 0, slots := 0, locals := 0 }
abbrev rm_X6_areAlike : Room := { frames := 1, cells := 0, slots := 0, locals := 27 }
abbrev rm_X6_comesAhead : Room := { frames := 1, cells := 0, slots := 0, locals := 27 }
abbrev rm_X6_placeOf : Room := { frames := 2, cells := 0, slots := 0, locals := 50 }
abbrev rm_X6_volumeOf : Room := { frames := 1, cells := 0, slots := 0, locals := 20 }
abbrev rm_X6_isOfPrintedVolume : Room := { frames := 2, cells := 0, slots := 0, locals := 42 }
abbrev rm_X6_columnsOf : Room := { frames := 3, cells := 0, slots := 0, locals := 65 }
abbrev rm_X6_worthsIn : Room := { frames := 2, cells := 0, slots := 0, locals := 42 }
abbrev rm_X6_isToBeGiven : Room := { frames := 3, cells := 0, slots := 0, locals := 64 }
abbrev rm_X6_isAmongEnemies : Room := { frames := 3, cells := 0, slots := 0, locals := 72 }
abbrev rm_X6_refersTo : Room := { frames := 2, cells := 0, slots := 0, locals := 49 }
abbrev rm_X6_beginFirst : Room := { frames := 4, cells := 0, slots := 0, locals := 95 }
abbrev rm_X6_endsAnArticle : Room := { frames := 5, cells := 0, slots := 0, locals := 117 }
abbrev rm_X6_putToPressFrom : Room := { frames := 3, cells := 0, slots := 0, locals := 81 }
abbrev rm_X6_lookAtReferences : Room := { frames := 4, cells := 0, slots := 0, locals := 92 }
abbrev rm_X6_fateOf : Room := { frames := 3, cells := 0, slots := 0, locals := 71 }
abbrev rm_X6_isThere : Room := { frames := 2, cells := 0, slots := 0, locals := 49 }
abbrev rm_X6_isBroken : Room := { frames := 3, cells := 0, slots := 0, locals := 71 }
abbrev rm_X6_countBroken : Room := { frames := 4, cells := 0, slots := 0, locals := 92 }
abbrev rm_X6_tellFacts : Room := { frames := 1, cells := 0, slots := 0, locals := 21 }
abbrev rm_X6_addErratum : Room := { frames := 0, cells := 0, slots := 0, locals := 0 }
abbrev rm_X6_tellPromises : Room := { frames := 4, cells := 0, slots := 0, locals := 92 }
abbrev rm_X6_isContradicted : Room := { frames := 1, cells := 0, slots := 0, locals := 21 }
abbrev rm_X6_isWithin : Room := { frames := 0, cells := 0, slots := 0, locals := 0 }
abbrev rm_X7_thrown : Room := { frames := 0, cells := 0, slots := 0, locals := 0 }
abbrev rm_X7_goes : Room := { frames := 0, cells := 0, slots := 0, locals := 0 }
abbrev rm_X7_isIn : Room := { frames := 0, cells := 0, slots := 0, locals := 0 }
abbrev rm_X7_isArticle : Room := { frames := 1, cells := 0, slots := 0, locals := 22 }
abbrev rm_X7_isContributor : Room := { frames := 1, cells := 0, slots := 0, locals := 22 }
abbrev rm_X7_isSubject : Room := { frames := 1, cells := 0, slots := 0, locals := 22 }
abbrev rm_X7_isFact : Room := { frames := 1, cells := 0, slots := 0, locals := 22 }
abbrev rm_X7_next : Room := { frames := 0, cells := 0, slots := 0, locals := 0 }
abbrev rm_X7_order : Room := { frames := 1, cells := 0, slots := 0, locals := 23 }
abbrev rm_X7_firstLetter : Room := { frames := 0, cells := 0, slots := 0, locals := 0 }
abbrev rm_X7_volumeOf : Room := { frames := 1, cells := 0, slots := 0, locals := 22 }
abbrev rm_X7_takes : Room := { frames := 0, cells := 0, slots := 0, locals := 0 }
abbrev rm_X7_sign : Room := { frames := 1, cells := 0, slots := 0, locals := 21 }
abbrev rm_X7_erase : Room := { frames := 0, cells := 0, slots := 0, locals := 0 }
abbrev rm_X7_rule : Room := { frames := 1, cells := 0, slots := 0, locals := 21 }
abbrev rm_X7_article : Room := { frames := 2, cells := 0, slots := 0, locals := 42 }
abbrev rm_X7_under : Room := { frames := 2, cells := 0, slots := 0, locals := 42 }
abbrev rm_X7_reference : Room := { frames := 0, cells := 0, slots := 0, locals := 0 }
abbrev rm_X7_refer : Room := { frames := 2, cells := 0, slots := 0, locals := 43 }
abbrev rm_X7_use : Room := { frames := 2, cells := 0, slots := 0, locals := 43 }
abbrev rm_X7_change : Room := { frames := 2, cells := 0, slots := 0, locals := 42 }
abbrev rm_X7_forbid : Room := { frames := 2, cells := 0, slots := 0, locals := 43 }
abbrev rm_X7_volume : Room := { frames := 1, cells := 0, slots := 0, locals := 22 }
abbrev rm_X7_isAhead : Room := { frames := 2, cells := 0, slots := 0, locals := 48 }
abbrev rm_X7_columns : Room := { frames := 3, cells := 0, slots := 0, locals := 71 }
abbrev rm_X7_contributor : Room := { frames := 1, cells := 0, slots := 0, locals := 22 }
abbrev rm_X7_quarrel : Room := { frames := 2, cells := 0, slots := 0, locals := 43 }
abbrev rm_X7_refersTo : Room := { frames := 2, cells := 0, slots := 0, locals := 48 }
abbrev rm_X7_isBarred : Room := { frames := 3, cells := 0, slots := 0, locals := 72 }
abbrev rm_X7_canBeGiven : Room := { frames := 4, cells := 0, slots := 0, locals := 97 }
abbrev rm_X7_toWrite : Room := { frames := 0, cells := 0, slots := 0, locals := 0 }
abbrev rm_X7_first : Room := { frames := 0, cells := 0, slots := 0, locals := 0 }
abbrev rm_X7_begins : Room := { frames := 4, cells := 0, slots := 0, locals := 99 }
abbrev rm_X7_give : Room := { frames := 5, cells := 0, slots := 0, locals := 122 }
abbrev rm_X7_die : Room := { frames := 2, cells := 0, slots := 0, locals := 43 }
abbrev rm_X7_pass : Room := { frames := 5, cells := 0, slots := 0, locals := 122 }
abbrev rm_X7_isPrinted : Room := { frames := 2, cells := 0, slots := 0, locals := 48 }
abbrev rm_X7_isPromise : Room := { frames := 2, cells := 0, slots := 0, locals := 44 }
abbrev rm_X7_prints : Room := { frames := 3, cells := 0, slots := 0, locals := 71 }
abbrev rm_X7_print : Room := { frames := 4, cells := 0, slots := 0, locals := 98 }
abbrev rm_X7_isOpen : Room := { frames := 3, cells := 0, slots := 0, locals := 71 }
abbrev rm_X7_supplement : Room := { frames := 4, cells := 0, slots := 0, locals := 98 }
abbrev rm_X7_month : Room := { frames := 0, cells := 0, slots := 0, locals := 0 }
abbrev rm_X7_at : Room := { frames := 3, cells := 0, slots := 0, locals := 71 }
abbrev rm_X7_about : Room := { frames := 4, cells := 0, slots := 0, locals := 99 }
abbrev rm_X7_struck : Room := { frames := 0, cells := 0, slots := 0, locals := 0 }
abbrev rm_X7_errata : Room := { frames := 2, cells := 0, slots := 0, locals := 43 }
abbrev rm_X7_opens : Room := { frames := 4, cells := 0, slots := 0, locals := 94 }
abbrev rm_X7_open : Room := { frames := 5, cells := 0, slots := 0, locals := 118 }
abbrev rm_X7_contradicts : Room := { frames := 0, cells := 0, slots := 0, locals := 0 }
abbrev rm_X7_contradictions : Room := { frames := 1, cells := 0, slots := 0, locals := 28 }
abbrev rm_X7_readAnew : Room := { frames := 5, cells := 0, slots := 0, locals := 118 }
abbrev rm_X7_synopsis : Room := { frames := 2, cells := 0, slots := 0, locals := 42 }
theorem cell_Art {E : gE} {w : Nat → Int64} {σ : gSt} {i : Nat} (hi : i < 24) : gC E w σ (oArt i) = .inr (0, [.ref (eB E + oHw i), .ref (eB E + oRa i), .ref (eB E + oA 2 i), .ref (eB E + oA 3 i), .int (σ 4 i 0), .int (σ 5 i 0), .int (σ 6 i 0), .int (σ 7 i 0), .int (σ 8 i 0), .int (σ 9 i 0), .int (σ 10 i 0), .int (σ 11 i 0)]) := by
  rw [gC, (dec_art i hi).1]; rfl
theorem cell_Con {E : gE} {w : Nat → Int64} {σ : gSt} {i : Nat} (hi : i < 6) : gC E w σ (oCon i) = .inr (1, [.ref (eB E + oA 30 i), .ref (eB E + oA 31 i), .int (σ 32 i 0), .int (σ 33 i 0), .int (σ 34 i 0), .int (σ 35 i 0)]) := by
  rw [gC, (dec_con i hi).1]; rfl
theorem cell_Hw {E : gE} {w : Nat → Int64} {σ : gSt} {i : Nat} (hi : i < 121) : gC E w σ (oHw i) = .inr (2, [.ref (eB E + oA 60 i), .ref (eB E + oA 61 i), .int (σ 62 i 0), .int (σ 63 i 0)]) := by
  rw [gC, (dec_hw i hi).1]; rfl
theorem cell_Ref {E : gE} {w : Nat → Int64} {σ : gSt} {i : Nat} (hi : i < 96) : gC E w σ (oRef i) = .inr (3, [.ref (eB E + oHw (24 + i)), .ref (eF E ((σ 91 i 0)).toNatClampNeg)]) := by
  rw [gC, (dec_ref i hi).1]; rfl
theorem cell_Vol {E : gE} {w : Nat → Int64} {σ : gSt} {i : Nat} (hi : i < 4) : gC E w σ (oVol i) = .inr (4, [.int (σ 120 i 0), .int (σ 121 i 0)]) := by
  rw [gC, (dec_vol i hi).1]; rfl
theorem cell_M {E : gE} {w : Nat → Int64} {σ : gSt} : gC E w σ 0 = .inr (5, [.ref (eB E + oHw 120), .ref (eB E + 4), .ref (eB E + 5), .ref (eB E + 6), .ref (eB E + oA 154 0), .ref (eB E + oA 155 0), .int (σ 156 0 0), .int (σ 157 0 0), .int (σ 158 0 0), .int (σ 159 0 0), .int (σ 160 0 0), .int (σ 161 0 0)]) := rfl
theorem cell_X {E : gE} {w : Nat → Int64} {σ : gSt} : gC E w σ 583 = .inr (6, [.int (σ 180 0 0), .ref (eB E + oA 181 0), .ref (eB E + oA 182 0), .int (σ 183 0 0), .ref (eB E + oA 184 0), .ref (eB E + oA 185 0), .ref (eB E + oA 186 0), .ref (eB E + oA 187 0), .ref (eB E + oA 188 0), .ref (eB E + oA 189 0), .ref (eB E + oA 190 0), .ref (eB E + oA 191 0), .ref (eB E + oA 192 0), .ref (eB E + oA 193 0), .ref (eB E + oA 194 0), .ref (eB E + oA 195 0), .ref (eB E + oA 196 0), .int (σ 197 0 0), .ref (eB E + oA 198 0), .ref (eB E + oA 199 0), .int (σ 200 0 0), .int (σ 201 0 0), .ref (eB E + oA 202 0), .ref (eB E + oA 203 0), .ref (eB E + oA 204 0), .ref (eB E + oA 205 0), .int (σ 206 0 0), .int (σ 207 0 0), .int (σ 208 0 0), .int (σ 209 0 0)]) := rfl
theorem hwA {i : Nat} (h : i < 24) : i < 121 := by omega
theorem hwR {i : Nat} (h : i < 96) : 24 + i < 121 := by omega
theorem hwD : 120 < 121 := by decide
theorem refB {i : Nat} {x : Int32} (h : i < 24) (hx : inb x 4 = true) : 4 * i + x.toNatClampNeg < 96 := by
  have := inb_lt hx
  omega
theorem ok_60 {i : Nat} {x : Int32} (hi : i < 121) (h : inb x 8 = true) : okA 0 60 i x = true := by
  have h1 : Nat.blt i 121 = true := Nat.ble_eq_true_of_le hi
  show (true && true && true && Nat.blt i 121 && inb x _) = true
  rw [h1]
  exact h
theorem ok_61 {i : Nat} {x : Int32} (hi : i < 121) (h : inb x 8 = true) : okA 0 61 i x = true := by
  have h1 : Nat.blt i 121 = true := Nat.ble_eq_true_of_le hi
  show (true && true && true && Nat.blt i 121 && inb x _) = true
  rw [h1]
  exact h
theorem ok_2 {i : Nat} {x : Int32} (hi : i < 24) (h : inb x 8 = true) : okA 2 2 i x = true := by
  have h1 : Nat.blt i 24 = true := Nat.ble_eq_true_of_le hi
  show (true && true && true && Nat.blt i 24 && inb x _) = true
  rw [h1]
  exact h
theorem ok_3 {i : Nat} {x : Int32} (hi : i < 24) (h : inb x 8 = true) : okA 1 3 i x = true := by
  have h1 : Nat.blt i 24 = true := Nat.ble_eq_true_of_le hi
  show (true && true && true && Nat.blt i 24 && inb x _) = true
  rw [h1]
  exact h
theorem ok_30 {i : Nat} {x : Int32} (hi : i < 6) (h : inb x 24 = true) : okA 1 30 i x = true := by
  have h1 : Nat.blt i 6 = true := Nat.ble_eq_true_of_le hi
  show (true && true && true && Nat.blt i 6 && inb x _) = true
  rw [h1]
  exact h
theorem ok_31 {i : Nat} {x : Int32} (hi : i < 6) (h : inb x 6 = true) : okA 2 31 i x = true := by
  have h1 : Nat.blt i 6 = true := Nat.ble_eq_true_of_le hi
  show (true && true && true && Nat.blt i 6 && inb x _) = true
  rw [h1]
  exact h
theorem ok_154 {x : Int32} (h : inb x 10 = true) : okA 1 154 0 x = true := by
  show (true && true && true && true && inb x _) = true
  exact h
theorem ok_155 {x : Int32} (h : inb x 8 = true) : okA 1 155 0 x = true := by
  show (true && true && true && true && inb x _) = true
  exact h
theorem ok_181 {x : Int32} (h : inb x 1000 = true) : okA 1 181 0 x = true := by
  show (true && true && true && true && inb x _) = true
  exact h
theorem ok_182 {x : Int32} (h : inb x 125 = true) : okA 1 182 0 x = true := by
  show (true && true && true && true && inb x _) = true
  exact h
theorem ok_184 {x : Int32} (h : inb x 24 = true) : okA 1 184 0 x = true := by
  show (true && true && true && true && inb x _) = true
  exact h
theorem ok_185 {x : Int32} (h : inb x 24 = true) : okA 1 185 0 x = true := by
  show (true && true && true && true && inb x _) = true
  exact h
theorem ok_186 {x : Int32} (h : inb x 24 = true) : okA 1 186 0 x = true := by
  show (true && true && true && true && inb x _) = true
  exact h
theorem ok_187 {x : Int32} (h : inb x 24 = true) : okA 1 187 0 x = true := by
  show (true && true && true && true && inb x _) = true
  exact h
theorem ok_188 {x : Int32} (h : inb x 24 = true) : okA 1 188 0 x = true := by
  show (true && true && true && true && inb x _) = true
  exact h
theorem ok_189 {x : Int32} (h : inb x 24 = true) : okA 1 189 0 x = true := by
  show (true && true && true && true && inb x _) = true
  exact h
theorem ok_190 {x : Int32} (h : inb x 24 = true) : okA 2 190 0 x = true := by
  show (true && true && true && true && inb x _) = true
  exact h
theorem ok_191 {x : Int32} (h : inb x 24 = true) : okA 1 191 0 x = true := by
  show (true && true && true && true && inb x _) = true
  exact h
theorem ok_192 {x : Int32} (h : inb x 96 = true) : okA 1 192 0 x = true := by
  show (true && true && true && true && inb x _) = true
  exact h
theorem ok_193 {x : Int32} (h : inb x 192 = true) : okA 2 193 0 x = true := by
  show (true && true && true && true && inb x _) = true
  exact h
theorem ok_194 {x : Int32} (h : inb x 192 = true) : okA 1 194 0 x = true := by
  show (true && true && true && true && inb x _) = true
  exact h
theorem ok_195 {x : Int32} (h : inb x 10 = true) : okA 1 195 0 x = true := by
  show (true && true && true && true && inb x _) = true
  exact h
theorem ok_196 {x : Int32} (h : inb x 8 = true) : okA 1 196 0 x = true := by
  show (true && true && true && true && inb x _) = true
  exact h
theorem ok_198 {x : Int32} (h : inb x 4 = true) : okA 1 198 0 x = true := by
  show (true && true && true && true && inb x _) = true
  exact h
theorem ok_199 {x : Int32} (h : inb x 4 = true) : okA 1 199 0 x = true := by
  show (true && true && true && true && inb x _) = true
  exact h
theorem ok_202 {x : Int32} (h : inb x 6 = true) : okA 1 202 0 x = true := by
  show (true && true && true && true && inb x _) = true
  exact h
theorem ok_203 {x : Int32} (h : inb x 6 = true) : okA 2 203 0 x = true := by
  show (true && true && true && true && inb x _) = true
  exact h
theorem ok_204 {x : Int32} (h : inb x 36 = true) : okA 2 204 0 x = true := by
  show (true && true && true && true && inb x _) = true
  exact h
theorem ok_205 {x : Int32} (h : inb x 6 = true) : okA 1 205 0 x = true := by
  show (true && true && true && true && inb x _) = true
  exact h
theorem ic_m1 : Int32.ofInt (-1) = (-1 : Int32) := by decide
theorem ic_0 : Int32.ofInt (0) = (0 : Int32) := by decide
theorem ic_1 : Int32.ofInt (1) = (1 : Int32) := by decide
theorem ic_2 : Int32.ofInt (2) = (2 : Int32) := by decide
theorem ic_3 : Int32.ofInt (3) = (3 : Int32) := by decide
theorem ic_4 : Int32.ofInt (4) = (4 : Int32) := by decide
theorem ic_5 : Int32.ofInt (5) = (5 : Int32) := by decide
theorem bp_6 : (Int8.ofInt 6).toInt32 = (6 : Int32) := by decide
theorem bp_7 : (Int8.ofInt 7).toInt32 = (7 : Int32) := by decide
theorem bp_8 : (Int8.ofInt 8).toInt32 = (8 : Int32) := by decide
theorem bp_9 : (Int8.ofInt 9).toInt32 = (9 : Int32) := by decide
theorem bp_10 : (Int8.ofInt 10).toInt32 = (10 : Int32) := by decide
theorem bp_24 : (Int8.ofInt 24).toInt32 = (24 : Int32) := by decide
theorem bp_32 : (Int8.ofInt 32).toInt32 = (32 : Int32) := by decide
theorem bp_45 : (Int8.ofInt 45).toInt32 = (45 : Int32) := by decide
theorem bp_50 : (Int8.ofInt 50).toInt32 = (50 : Int32) := by decide
theorem bp_97 : (Int8.ofInt 97).toInt32 = (97 : Int32) := by decide
theorem bp_99 : (Int8.ofInt 99).toInt32 = (99 : Int32) := by decide
theorem bp_100 : (Int8.ofInt 100).toInt32 = (100 : Int32) := by decide
theorem bp_120 : (Int8.ofInt 120).toInt32 = (120 : Int32) := by decide
theorem bp_122 : (Int8.ofInt 122).toInt32 = (122 : Int32) := by decide
theorem sp_960 : (Int16.ofInt 960).toInt32 = (960 : Int32) := by decide
theorem ii_1 (x : Int32) : x + Int32.ofInt (1) = x + (1) := by
  rw [show Int32.ofInt (1) = (1 : Int32) by decide]
theorem fc_0 : (0 : Int32).toNatClampNeg = 0 := by decide
theorem fc_1 : (1 : Int32).toNatClampNeg = 1 := by decide
theorem fc_2 : (2 : Int32).toNatClampNeg = 2 := by decide
theorem fc_3 : (3 : Int32).toNatClampNeg = 3 := by decide
theorem fc_4 : (4 : Int32).toNatClampNeg = 4 := by decide
section GL
variable {p : Program} {l : Launch} {e : Env} {R : Room} {s : State} {m : MethodId} {args : Array Value} {below : List Frame} {meth : Method} {c : Code} {nL cells slots : Nat} {Q : State → Prop} {E : gE} {w : Nat → Int64} {σ : gSt} {pc q : Nat} {lv lv' : List (Nat × Value)} {st st' : List Value} {cc : ByteArray} {own : String} {ret : Option FieldType}
theorem gf_RX6_10 (hC : gCx p s m args meth c cc nL RX6 ret E) (d : decode cc pc = .ok (.getfield 10, 3)) (hq : pc + 3 = q) (k : G p l e R s m args below meth c nL cells slots Q E w σ q lv (.ref (eB E + oHw 120) :: st)) : G p l e R s m args below meth c nL cells slots Q E w σ pc lv (.ref (eB E + 0) :: st) :=
  G_get (T := TX6) (k := 0) hC d hq (by decide) cell_M rfl inW6 (by decide) (wall (by decide +kernel) rfl) rfl rfl k
theorem gf_RX6_18 (hC : gCx p s m args meth c cc nL RX6 ret E) (d : decode cc pc = .ok (.getfield 18, 3)) (hq : pc + 3 = q) (k : G p l e R s m args below meth c nL cells slots Q E w σ q lv (.ref (eB E + 4) :: st)) : G p l e R s m args below meth c nL cells slots Q E w σ pc lv (.ref (eB E + 0) :: st) :=
  G_get (T := TX6) (k := 1) hC d hq (by decide) cell_M rfl inW6 (by decide) (wall (by decide +kernel) rfl) rfl rfl k
theorem gf_RX6_24 (hC : gCx p s m args meth c cc nL RX6 ret E) (d : decode cc pc = .ok (.getfield 24, 3)) (hq : pc + 3 = q) (k : G p l e R s m args below meth c nL cells slots Q E w σ q lv (.ref (eB E + 5) :: st)) : G p l e R s m args below meth c nL cells slots Q E w σ pc lv (.ref (eB E + 0) :: st) :=
  G_get (T := TX6) (k := 2) hC d hq (by decide) cell_M rfl inW6 (by decide) (wall (by decide +kernel) rfl) rfl rfl k
theorem gf_RX6_30 (hC : gCx p s m args meth c cc nL RX6 ret E) (d : decode cc pc = .ok (.getfield 30, 3)) (hq : pc + 3 = q) (k : G p l e R s m args below meth c nL cells slots Q E w σ q lv (.ref (eB E + 6) :: st)) : G p l e R s m args below meth c nL cells slots Q E w σ pc lv (.ref (eB E + 0) :: st) :=
  G_get (T := TX6) (k := 3) hC d hq (by decide) cell_M rfl inW6 (by decide) (wall (by decide +kernel) rfl) rfl rfl k
theorem gf_RX6_34 (hC : gCx p s m args meth c cc nL RX6 ret E) (d : decode cc pc = .ok (.getfield 34, 3)) (hq : pc + 3 = q) (k : G p l e R s m args below meth c nL cells slots Q E w σ q lv (.ref (eB E + oA 154 0) :: st)) : G p l e R s m args below meth c nL cells slots Q E w σ pc lv (.ref (eB E + 0) :: st) :=
  G_get (T := TX6) (k := 4) hC d hq (by decide) cell_M rfl inW6 (by decide) (wall (by decide +kernel) rfl) rfl rfl k
theorem gf_RX6_38 (hC : gCx p s m args meth c cc nL RX6 ret E) (d : decode cc pc = .ok (.getfield 38, 3)) (hq : pc + 3 = q) (k : G p l e R s m args below meth c nL cells slots Q E w σ q lv (.ref (eB E + oA 155 0) :: st)) : G p l e R s m args below meth c nL cells slots Q E w σ pc lv (.ref (eB E + 0) :: st) :=
  G_get (T := TX6) (k := 5) hC d hq (by decide) cell_M rfl inW6 (by decide) (wall (by decide +kernel) rfl) rfl rfl k
theorem gf_RX6_58 {i : Nat} (hC : gCx p s m args meth c cc nL RX6 ret E) (d : decode cc pc = .ok (.getfield 58, 3)) (hq : pc + 3 = q) (hi : i < 121) (k : G p l e R s m args below meth c nL cells slots Q E w σ q lv (.int (σ 62 i 0) :: st)) : G p l e R s m args below meth c nL cells slots Q E w σ pc lv (.ref (eB E + oHw i) :: st) :=
  G_getN (host := RX6) (T := TX3) (k := 2) hC d hq (dec_hw i hi).2 (cell_Hw hi) rfl inW3 (by decide) (by decide +kernel) rfl rfl k
theorem gf_RX6_74 (hC : gCx p s m args meth c cc nL RX6 ret E) (d : decode cc pc = .ok (.getfield 74, 3)) (hq : pc + 3 = q) (k : G p l e R s m args below meth c nL cells slots Q E w σ q lv (.int (σ 158 0 0) :: st)) : G p l e R s m args below meth c nL cells slots Q E w σ pc lv (.ref (eB E + 0) :: st) :=
  G_get (T := TX6) (k := 8) hC d hq (by decide) cell_M rfl inW6 (by decide) (wall (by decide +kernel) rfl) rfl rfl k
theorem gf_RX6_79 (hC : gCx p s m args meth c cc nL RX6 ret E) (d : decode cc pc = .ok (.getfield 79, 3)) (hq : pc + 3 = q) (k : G p l e R s m args below meth c nL cells slots Q E w σ q lv (.int (σ 161 0 0) :: st)) : G p l e R s m args below meth c nL cells slots Q E w σ pc lv (.ref (eB E + 0) :: st) :=
  G_get (T := TX6) (k := 11) hC d hq (by decide) cell_M rfl inW6 (by decide) (wall (by decide +kernel) rfl) rfl rfl k
theorem gf_RX6_89 (hC : gCx p s m args meth c cc nL RX6 ret E) (d : decode cc pc = .ok (.getfield 89, 3)) (hq : pc + 3 = q) (k : G p l e R s m args below meth c nL cells slots Q E w σ q lv (.int (σ 156 0 0) :: st)) : G p l e R s m args below meth c nL cells slots Q E w σ pc lv (.ref (eB E + 0) :: st) :=
  G_get (T := TX6) (k := 6) hC d hq (by decide) cell_M rfl inW6 (by decide) (wall (by decide +kernel) rfl) rfl rfl k
theorem gf_RX6_98 {i : Nat} (hC : gCx p s m args meth c cc nL RX6 ret E) (d : decode cc pc = .ok (.getfield 98, 3)) (hq : pc + 3 = q) (hi : i < 24) (k : G p l e R s m args below meth c nL cells slots Q E w σ q lv (.int (σ 5 i 0) :: st)) : G p l e R s m args below meth c nL cells slots Q E w σ pc lv (.ref (eB E + oArt i) :: st) :=
  G_getN (host := RX6) (T := TX0) (k := 5) hC d hq (dec_art i hi).2 (cell_Art hi) rfl inW0 (by decide) (by decide +kernel) rfl rfl k
theorem gf_RX6_101 {i : Nat} (hC : gCx p s m args meth c cc nL RX6 ret E) (d : decode cc pc = .ok (.getfield 101, 3)) (hq : pc + 3 = q) (hi : i < 24) (k : G p l e R s m args below meth c nL cells slots Q E w σ q lv (.int (σ 6 i 0) :: st)) : G p l e R s m args below meth c nL cells slots Q E w σ pc lv (.ref (eB E + oArt i) :: st) :=
  G_getN (host := RX6) (T := TX0) (k := 6) hC d hq (dec_art i hi).2 (cell_Art hi) rfl inW0 (by decide) (by decide +kernel) rfl rfl k
theorem gf_RX6_104 {i : Nat} (hC : gCx p s m args meth c cc nL RX6 ret E) (d : decode cc pc = .ok (.getfield 104, 3)) (hq : pc + 3 = q) (hi : i < 24) (k : G p l e R s m args below meth c nL cells slots Q E w σ q lv (.ref (eB E + oHw i) :: st)) : G p l e R s m args below meth c nL cells slots Q E w σ pc lv (.ref (eB E + oArt i) :: st) :=
  G_getN (host := RX6) (T := TX0) (k := 0) hC d hq (dec_art i hi).2 (cell_Art hi) rfl inW0 (by decide) (by decide +kernel) rfl rfl k
theorem gf_RX6_116 {i : Nat} (hC : gCx p s m args meth c cc nL RX6 ret E) (d : decode cc pc = .ok (.getfield 116, 3)) (hq : pc + 3 = q) (hi : i < 24) (k : G p l e R s m args below meth c nL cells slots Q E w σ q lv (.int (σ 11 i 0) :: st)) : G p l e R s m args below meth c nL cells slots Q E w σ pc lv (.ref (eB E + oArt i) :: st) :=
  G_getN (host := RX6) (T := TX0) (k := 11) hC d hq (dec_art i hi).2 (cell_Art hi) rfl inW0 (by decide) (by decide +kernel) rfl rfl k
theorem gf_RX6_119 {i : Nat} (hC : gCx p s m args meth c cc nL RX6 ret E) (d : decode cc pc = .ok (.getfield 119, 3)) (hq : pc + 3 = q) (hi : i < 24) (k : G p l e R s m args below meth c nL cells slots Q E w σ q lv (.int (σ 4 i 0) :: st)) : G p l e R s m args below meth c nL cells slots Q E w σ pc lv (.ref (eB E + oArt i) :: st) :=
  G_getN (host := RX6) (T := TX0) (k := 4) hC d hq (dec_art i hi).2 (cell_Art hi) rfl inW0 (by decide) (by decide +kernel) rfl rfl k
theorem gf_RX6_124 {i : Nat} (hC : gCx p s m args meth c cc nL RX6 ret E) (d : decode cc pc = .ok (.getfield 124, 3)) (hq : pc + 3 = q) (hi : i < 24) (k : G p l e R s m args below meth c nL cells slots Q E w σ q lv (.ref (eB E + oRa i) :: st)) : G p l e R s m args below meth c nL cells slots Q E w σ pc lv (.ref (eB E + oArt i) :: st) :=
  G_getN (host := RX6) (T := TX0) (k := 1) hC d hq (dec_art i hi).2 (cell_Art hi) rfl inW0 (by decide) (by decide +kernel) rfl rfl k
theorem gf_RX6_128 {i : Nat} (hC : gCx p s m args meth c cc nL RX6 ret E) (d : decode cc pc = .ok (.getfield 128, 3)) (hq : pc + 3 = q) (hi : i < 96) (k : G p l e R s m args below meth c nL cells slots Q E w σ q lv (.ref (eB E + oHw (24 + i)) :: st)) : G p l e R s m args below meth c nL cells slots Q E w σ pc lv (.ref (eB E + oRef i) :: st) :=
  G_getN (host := RX6) (T := TX4) (k := 0) hC d hq (dec_ref i hi).2 (cell_Ref hi) rfl inW4 (by decide) (by decide +kernel) rfl rfl k
theorem gf_RX6_139 {i : Nat} (hC : gCx p s m args meth c cc nL RX6 ret E) (d : decode cc pc = .ok (.getfield 139, 3)) (hq : pc + 3 = q) (hi : i < 24) (k : G p l e R s m args below meth c nL cells slots Q E w σ q lv (.ref (eB E + oA 2 i) :: st)) : G p l e R s m args below meth c nL cells slots Q E w σ pc lv (.ref (eB E + oArt i) :: st) :=
  G_getN (host := RX6) (T := TX0) (k := 2) hC d hq (dec_art i hi).2 (cell_Art hi) rfl inW0 (by decide) (by decide +kernel) rfl rfl k
theorem gf_RX6_145 {i : Nat} (hC : gCx p s m args meth c cc nL RX6 ret E) (d : decode cc pc = .ok (.getfield 145, 3)) (hq : pc + 3 = q) (hi : i < 24) (k : G p l e R s m args below meth c nL cells slots Q E w σ q lv (.int (σ 10 i 0) :: st)) : G p l e R s m args below meth c nL cells slots Q E w σ pc lv (.ref (eB E + oArt i) :: st) :=
  G_getN (host := RX6) (T := TX0) (k := 10) hC d hq (dec_art i hi).2 (cell_Art hi) rfl inW0 (by decide) (by decide +kernel) rfl rfl k
theorem gf_RX6_150 (hC : gCx p s m args meth c cc nL RX6 ret E) (d : decode cc pc = .ok (.getfield 150, 3)) (hq : pc + 3 = q) (k : G p l e R s m args below meth c nL cells slots Q E w σ q lv (.int (σ 157 0 0) :: st)) : G p l e R s m args below meth c nL cells slots Q E w σ pc lv (.ref (eB E + 0) :: st) :=
  G_get (T := TX6) (k := 7) hC d hq (by decide) cell_M rfl inW6 (by decide) (wall (by decide +kernel) rfl) rfl rfl k
theorem gf_RX6_153 {i : Nat} (hC : gCx p s m args meth c cc nL RX6 ret E) (d : decode cc pc = .ok (.getfield 153, 3)) (hq : pc + 3 = q) (hi : i < 4) (k : G p l e R s m args below meth c nL cells slots Q E w σ q lv (.int (σ 120 i 0) :: st)) : G p l e R s m args below meth c nL cells slots Q E w σ pc lv (.ref (eB E + oVol i) :: st) :=
  G_getN (host := RX6) (T := TX5) (k := 0) hC d hq (dec_vol i hi).2 (cell_Vol hi) rfl inW5 (by decide) (by decide +kernel) rfl rfl k
theorem gf_RX6_161 {i : Nat} (hC : gCx p s m args meth c cc nL RX6 ret E) (d : decode cc pc = .ok (.getfield 161, 3)) (hq : pc + 3 = q) (hi : i < 4) (k : G p l e R s m args below meth c nL cells slots Q E w σ q lv (.int (σ 121 i 0) :: st)) : G p l e R s m args below meth c nL cells slots Q E w σ pc lv (.ref (eB E + oVol i) :: st) :=
  G_getN (host := RX6) (T := TX5) (k := 1) hC d hq (dec_vol i hi).2 (cell_Vol hi) rfl inW5 (by decide) (by decide +kernel) rfl rfl k
theorem gf_RX6_166 (hC : gCx p s m args meth c cc nL RX6 ret E) (d : decode cc pc = .ok (.getfield 166, 3)) (hq : pc + 3 = q) (k : G p l e R s m args below meth c nL cells slots Q E w σ q lv (.int (σ 159 0 0) :: st)) : G p l e R s m args below meth c nL cells slots Q E w σ pc lv (.ref (eB E + 0) :: st) :=
  G_get (T := TX6) (k := 9) hC d hq (by decide) cell_M rfl inW6 (by decide) (wall (by decide +kernel) rfl) rfl rfl k
theorem gf_RX6_179 {i : Nat} (hC : gCx p s m args meth c cc nL RX6 ret E) (d : decode cc pc = .ok (.getfield 179, 3)) (hq : pc + 3 = q) (hi : i < 6) (k : G p l e R s m args below meth c nL cells slots Q E w σ q lv (.ref (eB E + oA 31 i) :: st)) : G p l e R s m args below meth c nL cells slots Q E w σ pc lv (.ref (eB E + oCon i) :: st) :=
  G_getN (host := RX6) (T := TX1) (k := 1) hC d hq (dec_con i hi).2 (cell_Con hi) rfl inW1 (by decide) (by decide +kernel) rfl rfl k
theorem gf_RX6_186 {i : Nat} (hC : gCx p s m args meth c cc nL RX6 ret E) (d : decode cc pc = .ok (.getfield 186, 3)) (hq : pc + 3 = q) (hi : i < 6) (k : G p l e R s m args below meth c nL cells slots Q E w σ q lv (.int (σ 35 i 0) :: st)) : G p l e R s m args below meth c nL cells slots Q E w σ pc lv (.ref (eB E + oCon i) :: st) :=
  G_getN (host := RX6) (T := TX1) (k := 5) hC d hq (dec_con i hi).2 (cell_Con hi) rfl inW1 (by decide) (by decide +kernel) rfl rfl k
theorem gf_RX6_195 {i : Nat} (hC : gCx p s m args meth c cc nL RX6 ret E) (d : decode cc pc = .ok (.getfield 195, 3)) (hq : pc + 3 = q) (hi : i < 24) (k : G p l e R s m args below meth c nL cells slots Q E w σ q lv (.int (σ 7 i 0) :: st)) : G p l e R s m args below meth c nL cells slots Q E w σ pc lv (.ref (eB E + oArt i) :: st) :=
  G_getN (host := RX6) (T := TX0) (k := 7) hC d hq (dec_art i hi).2 (cell_Art hi) rfl inW0 (by decide) (by decide +kernel) rfl rfl k
theorem gf_RX6_201 {i : Nat} (hC : gCx p s m args meth c cc nL RX6 ret E) (d : decode cc pc = .ok (.getfield 201, 3)) (hq : pc + 3 = q) (hi : i < 6) (k : G p l e R s m args below meth c nL cells slots Q E w σ q lv (.int (σ 32 i 0) :: st)) : G p l e R s m args below meth c nL cells slots Q E w σ pc lv (.ref (eB E + oCon i) :: st) :=
  G_getN (host := RX6) (T := TX1) (k := 2) hC d hq (dec_con i hi).2 (cell_Con hi) rfl inW1 (by decide) (by decide +kernel) rfl rfl k
theorem gf_RX6_210 {i : Nat} (hC : gCx p s m args meth c cc nL RX6 ret E) (d : decode cc pc = .ok (.getfield 210, 3)) (hq : pc + 3 = q) (hi : i < 6) (k : G p l e R s m args below meth c nL cells slots Q E w σ q lv (.ref (eB E + oA 30 i) :: st)) : G p l e R s m args below meth c nL cells slots Q E w σ pc lv (.ref (eB E + oCon i) :: st) :=
  G_getN (host := RX6) (T := TX1) (k := 0) hC d hq (dec_con i hi).2 (cell_Con hi) rfl inW1 (by decide) (by decide +kernel) rfl rfl k
theorem gf_RX6_213 {i : Nat} (hC : gCx p s m args meth c cc nL RX6 ret E) (d : decode cc pc = .ok (.getfield 213, 3)) (hq : pc + 3 = q) (hi : i < 24) (k : G p l e R s m args below meth c nL cells slots Q E w σ q lv (.int (σ 8 i 0) :: st)) : G p l e R s m args below meth c nL cells slots Q E w σ pc lv (.ref (eB E + oArt i) :: st) :=
  G_getN (host := RX6) (T := TX0) (k := 8) hC d hq (dec_art i hi).2 (cell_Art hi) rfl inW0 (by decide) (by decide +kernel) rfl rfl k
theorem gf_RX6_218 (hC : gCx p s m args meth c cc nL RX6 ret E) (d : decode cc pc = .ok (.getfield 218, 3)) (hq : pc + 3 = q) (k : G p l e R s m args below meth c nL cells slots Q E w σ q lv (.int (σ 160 0 0) :: st)) : G p l e R s m args below meth c nL cells slots Q E w σ pc lv (.ref (eB E + 0) :: st) :=
  G_get (T := TX6) (k := 10) hC d hq (by decide) cell_M rfl inW6 (by decide) (wall (by decide +kernel) rfl) rfl rfl k
theorem gf_RX6_276 {i : Nat} (hC : gCx p s m args meth c cc nL RX6 ret E) (d : decode cc pc = .ok (.getfield 276, 3)) (hq : pc + 3 = q) (hi : i < 6) (k : G p l e R s m args below meth c nL cells slots Q E w σ q lv (.int (σ 34 i 0) :: st)) : G p l e R s m args below meth c nL cells slots Q E w σ pc lv (.ref (eB E + oCon i) :: st) :=
  G_getN (host := RX6) (T := TX1) (k := 4) hC d hq (dec_con i hi).2 (cell_Con hi) rfl inW1 (by decide) (by decide +kernel) rfl rfl k
theorem gf_RX6_354 {i : Nat} (hC : gCx p s m args meth c cc nL RX6 ret E) (d : decode cc pc = .ok (.getfield 354, 3)) (hq : pc + 3 = q) (hi : i < 96) (k : G p l e R s m args below meth c nL cells slots Q E w σ q lv (.ref (eF E ((σ 91 i 0)).toNatClampNeg) :: st)) : G p l e R s m args below meth c nL cells slots Q E w σ pc lv (.ref (eB E + oRef i) :: st) :=
  G_getN (host := RX6) (T := TX4) (k := 1) hC d hq (dec_ref i hi).2 (cell_Ref hi) rfl inW4 (by decide) (by decide +kernel) rfl rfl k
theorem gf_RX6_377 {i : Nat} (hC : gCx p s m args meth c cc nL RX6 ret E) (d : decode cc pc = .ok (.getfield 377, 3)) (hq : pc + 3 = q) (hi : i < 24) (k : G p l e R s m args below meth c nL cells slots Q E w σ q lv (.ref (eB E + oA 3 i) :: st)) : G p l e R s m args below meth c nL cells slots Q E w σ pc lv (.ref (eB E + oArt i) :: st) :=
  G_getN (host := RX6) (T := TX0) (k := 3) hC d hq (dec_art i hi).2 (cell_Art hi) rfl inW0 (by decide) (by decide +kernel) rfl rfl k
theorem gf_RX0_20 {i : Nat} (hC : gCx p s m args meth c cc nL RX0 ret E) (d : decode cc pc = .ok (.getfield 20, 3)) (hq : pc + 3 = q) (hi : i < 24) (k : G p l e R s m args below meth c nL cells slots Q E w σ q lv (.ref (eB E + oRa i) :: st)) : G p l e R s m args below meth c nL cells slots Q E w σ pc lv (.ref (eB E + oArt i) :: st) :=
  G_get (T := TX0) (k := 1) hC d hq (dec_art i hi).2 (cell_Art hi) rfl inW0 (by decide) (wall (by decide +kernel) rfl) rfl rfl k
theorem gf_RX0_28 {i : Nat} (hC : gCx p s m args meth c cc nL RX0 ret E) (d : decode cc pc = .ok (.getfield 28, 3)) (hq : pc + 3 = q) (hi : i < 24) (k : G p l e R s m args below meth c nL cells slots Q E w σ q lv (.ref (eB E + oA 3 i) :: st)) : G p l e R s m args below meth c nL cells slots Q E w σ pc lv (.ref (eB E + oArt i) :: st) :=
  G_get (T := TX0) (k := 3) hC d hq (dec_art i hi).2 (cell_Art hi) rfl inW0 (by decide) (wall (by decide +kernel) rfl) rfl rfl k
theorem gf_RX0_32 {i : Nat} (hC : gCx p s m args meth c cc nL RX0 ret E) (d : decode cc pc = .ok (.getfield 32, 3)) (hq : pc + 3 = q) (hi : i < 24) (k : G p l e R s m args below meth c nL cells slots Q E w σ q lv (.int (σ 7 i 0) :: st)) : G p l e R s m args below meth c nL cells slots Q E w σ pc lv (.ref (eB E + oArt i) :: st) :=
  G_get (T := TX0) (k := 7) hC d hq (dec_art i hi).2 (cell_Art hi) rfl inW0 (by decide) (wall (by decide +kernel) rfl) rfl rfl k
theorem gf_RX0_40 {i : Nat} (hC : gCx p s m args meth c cc nL RX0 ret E) (d : decode cc pc = .ok (.getfield 40, 3)) (hq : pc + 3 = q) (hi : i < 24) (k : G p l e R s m args below meth c nL cells slots Q E w σ q lv (.int (σ 6 i 0) :: st)) : G p l e R s m args below meth c nL cells slots Q E w σ pc lv (.ref (eB E + oArt i) :: st) :=
  G_get (T := TX0) (k := 6) hC d hq (dec_art i hi).2 (cell_Art hi) rfl inW0 (by decide) (wall (by decide +kernel) rfl) rfl rfl k
theorem gf_RX0_43 {i : Nat} (hC : gCx p s m args meth c cc nL RX0 ret E) (d : decode cc pc = .ok (.getfield 43, 3)) (hq : pc + 3 = q) (hi : i < 24) (k : G p l e R s m args below meth c nL cells slots Q E w σ q lv (.int (σ 11 i 0) :: st)) : G p l e R s m args below meth c nL cells slots Q E w σ pc lv (.ref (eB E + oArt i) :: st) :=
  G_get (T := TX0) (k := 11) hC d hq (dec_art i hi).2 (cell_Art hi) rfl inW0 (by decide) (wall (by decide +kernel) rfl) rfl rfl k
theorem gf_RX0_51 {i : Nat} (hC : gCx p s m args meth c cc nL RX0 ret E) (d : decode cc pc = .ok (.getfield 51, 3)) (hq : pc + 3 = q) (hi : i < 24) (k : G p l e R s m args below meth c nL cells slots Q E w σ q lv (.int (σ 9 i 0) :: st)) : G p l e R s m args below meth c nL cells slots Q E w σ pc lv (.ref (eB E + oArt i) :: st) :=
  G_get (T := TX0) (k := 9) hC d hq (dec_art i hi).2 (cell_Art hi) rfl inW0 (by decide) (wall (by decide +kernel) rfl) rfl rfl k
theorem gf_RX0_54 {i : Nat} (hC : gCx p s m args meth c cc nL RX0 ret E) (d : decode cc pc = .ok (.getfield 54, 3)) (hq : pc + 3 = q) (hi : i < 24) (k : G p l e R s m args below meth c nL cells slots Q E w σ q lv (.int (σ 10 i 0) :: st)) : G p l e R s m args below meth c nL cells slots Q E w σ pc lv (.ref (eB E + oArt i) :: st) :=
  G_get (T := TX0) (k := 10) hC d hq (dec_art i hi).2 (cell_Art hi) rfl inW0 (by decide) (wall (by decide +kernel) rfl) rfl rfl k
theorem gf_RX0_63 {i : Nat} (hC : gCx p s m args meth c cc nL RX0 ret E) (d : decode cc pc = .ok (.getfield 63, 3)) (hq : pc + 3 = q) (hi : i < 24) (k : G p l e R s m args below meth c nL cells slots Q E w σ q lv (.int (σ 4 i 0) :: st)) : G p l e R s m args below meth c nL cells slots Q E w σ pc lv (.ref (eB E + oArt i) :: st) :=
  G_get (T := TX0) (k := 4) hC d hq (dec_art i hi).2 (cell_Art hi) rfl inW0 (by decide) (wall (by decide +kernel) rfl) rfl rfl k
theorem gf_RX0_66 {i : Nat} (hC : gCx p s m args meth c cc nL RX0 ret E) (d : decode cc pc = .ok (.getfield 66, 3)) (hq : pc + 3 = q) (hi : i < 96) (k : G p l e R s m args below meth c nL cells slots Q E w σ q lv (.ref (eF E ((σ 91 i 0)).toNatClampNeg) :: st)) : G p l e R s m args below meth c nL cells slots Q E w σ pc lv (.ref (eB E + oRef i) :: st) :=
  G_getN (host := RX6) (T := TX4) (k := 1) hC d hq (dec_ref i hi).2 (cell_Ref hi) rfl inW4 (by decide) (by decide +kernel) rfl rfl k
theorem gf_RX1_9 {i : Nat} (hC : gCx p s m args meth c cc nL RX1 ret E) (d : decode cc pc = .ok (.getfield 9, 3)) (hq : pc + 3 = q) (hi : i < 6) (k : G p l e R s m args below meth c nL cells slots Q E w σ q lv (.ref (eB E + oA 30 i) :: st)) : G p l e R s m args below meth c nL cells slots Q E w σ pc lv (.ref (eB E + oCon i) :: st) :=
  G_get (T := TX1) (k := 0) hC d hq (dec_con i hi).2 (cell_Con hi) rfl inW1 (by decide) (wall (by decide +kernel) rfl) rfl rfl k
theorem gf_RX1_19 {i : Nat} (hC : gCx p s m args meth c cc nL RX1 ret E) (d : decode cc pc = .ok (.getfield 19, 3)) (hq : pc + 3 = q) (hi : i < 6) (k : G p l e R s m args below meth c nL cells slots Q E w σ q lv (.int (σ 33 i 0) :: st)) : G p l e R s m args below meth c nL cells slots Q E w σ pc lv (.ref (eB E + oCon i) :: st) :=
  G_get (T := TX1) (k := 3) hC d hq (dec_con i hi).2 (cell_Con hi) rfl inW1 (by decide) (wall (by decide +kernel) rfl) rfl rfl k
theorem gf_RX1_23 {i : Nat} (hC : gCx p s m args meth c cc nL RX1 ret E) (d : decode cc pc = .ok (.getfield 23, 3)) (hq : pc + 3 = q) (hi : i < 6) (k : G p l e R s m args below meth c nL cells slots Q E w σ q lv (.int (σ 32 i 0) :: st)) : G p l e R s m args below meth c nL cells slots Q E w σ pc lv (.ref (eB E + oCon i) :: st) :=
  G_get (T := TX1) (k := 2) hC d hq (dec_con i hi).2 (cell_Con hi) rfl inW1 (by decide) (wall (by decide +kernel) rfl) rfl rfl k
theorem gf_RX3_9 {i : Nat} (hC : gCx p s m args meth c cc nL RX3 ret E) (d : decode cc pc = .ok (.getfield 9, 3)) (hq : pc + 3 = q) (hi : i < 121) (k : G p l e R s m args below meth c nL cells slots Q E w σ q lv (.ref (eB E + oA 60 i) :: st)) : G p l e R s m args below meth c nL cells slots Q E w σ pc lv (.ref (eB E + oHw i) :: st) :=
  G_get (T := TX3) (k := 0) hC d hq (dec_hw i hi).2 (cell_Hw hi) rfl inW3 (by decide) (wall (by decide +kernel) rfl) rfl rfl k
theorem gf_RX3_15 {i : Nat} (hC : gCx p s m args meth c cc nL RX3 ret E) (d : decode cc pc = .ok (.getfield 15, 3)) (hq : pc + 3 = q) (hi : i < 121) (k : G p l e R s m args below meth c nL cells slots Q E w σ q lv (.ref (eB E + oA 61 i) :: st)) : G p l e R s m args below meth c nL cells slots Q E w σ pc lv (.ref (eB E + oHw i) :: st) :=
  G_get (T := TX3) (k := 1) hC d hq (dec_hw i hi).2 (cell_Hw hi) rfl inW3 (by decide) (wall (by decide +kernel) rfl) rfl rfl k
theorem gf_RX3_18 {i : Nat} (hC : gCx p s m args meth c cc nL RX3 ret E) (d : decode cc pc = .ok (.getfield 18, 3)) (hq : pc + 3 = q) (hi : i < 121) (k : G p l e R s m args below meth c nL cells slots Q E w σ q lv (.int (σ 62 i 0) :: st)) : G p l e R s m args below meth c nL cells slots Q E w σ pc lv (.ref (eB E + oHw i) :: st) :=
  G_get (T := TX3) (k := 2) hC d hq (dec_hw i hi).2 (cell_Hw hi) rfl inW3 (by decide) (wall (by decide +kernel) rfl) rfl rfl k
theorem gf_RX3_29 {i : Nat} (hC : gCx p s m args meth c cc nL RX3 ret E) (d : decode cc pc = .ok (.getfield 29, 3)) (hq : pc + 3 = q) (hi : i < 121) (k : G p l e R s m args below meth c nL cells slots Q E w σ q lv (.int (σ 63 i 0) :: st)) : G p l e R s m args below meth c nL cells slots Q E w σ pc lv (.ref (eB E + oHw i) :: st) :=
  G_get (T := TX3) (k := 3) hC d hq (dec_hw i hi).2 (cell_Hw hi) rfl inW3 (by decide) (wall (by decide +kernel) rfl) rfl rfl k
theorem gf_RX7_7 (hC : gCx p s m args meth c cc nL RX7 ret E) (d : decode cc pc = .ok (.getfield 7, 3)) (hq : pc + 3 = q) (k : G p l e R s m args below meth c nL cells slots Q E w σ q lv (.ref (eB E + oA 181 0) :: st)) : G p l e R s m args below meth c nL cells slots Q E w σ pc lv (.ref (eB E + 583) :: st) :=
  G_get (T := TX7) (k := 1) hC d hq (by decide) cell_X rfl inW7 (by decide) (wall (by decide +kernel) rfl) rfl rfl k
theorem gf_RX7_13 (hC : gCx p s m args meth c cc nL RX7 ret E) (d : decode cc pc = .ok (.getfield 13, 3)) (hq : pc + 3 = q) (k : G p l e R s m args below meth c nL cells slots Q E w σ q lv (.ref (eB E + oA 182 0) :: st)) : G p l e R s m args below meth c nL cells slots Q E w σ pc lv (.ref (eB E + 583) :: st) :=
  G_get (T := TX7) (k := 2) hC d hq (by decide) cell_X rfl inW7 (by decide) (wall (by decide +kernel) rfl) rfl rfl k
theorem gf_RX7_16 (hC : gCx p s m args meth c cc nL RX7 ret E) (d : decode cc pc = .ok (.getfield 16, 3)) (hq : pc + 3 = q) (k : G p l e R s m args below meth c nL cells slots Q E w σ q lv (.ref (eB E + oA 184 0) :: st)) : G p l e R s m args below meth c nL cells slots Q E w σ pc lv (.ref (eB E + 583) :: st) :=
  G_get (T := TX7) (k := 4) hC d hq (by decide) cell_X rfl inW7 (by decide) (wall (by decide +kernel) rfl) rfl rfl k
theorem gf_RX7_19 (hC : gCx p s m args meth c cc nL RX7 ret E) (d : decode cc pc = .ok (.getfield 19, 3)) (hq : pc + 3 = q) (k : G p l e R s m args below meth c nL cells slots Q E w σ q lv (.ref (eB E + oA 185 0) :: st)) : G p l e R s m args below meth c nL cells slots Q E w σ pc lv (.ref (eB E + 583) :: st) :=
  G_get (T := TX7) (k := 5) hC d hq (by decide) cell_X rfl inW7 (by decide) (wall (by decide +kernel) rfl) rfl rfl k
theorem gf_RX7_22 (hC : gCx p s m args meth c cc nL RX7 ret E) (d : decode cc pc = .ok (.getfield 22, 3)) (hq : pc + 3 = q) (k : G p l e R s m args below meth c nL cells slots Q E w σ q lv (.ref (eB E + oA 186 0) :: st)) : G p l e R s m args below meth c nL cells slots Q E w σ pc lv (.ref (eB E + 583) :: st) :=
  G_get (T := TX7) (k := 6) hC d hq (by decide) cell_X rfl inW7 (by decide) (wall (by decide +kernel) rfl) rfl rfl k
theorem gf_RX7_25 (hC : gCx p s m args meth c cc nL RX7 ret E) (d : decode cc pc = .ok (.getfield 25, 3)) (hq : pc + 3 = q) (k : G p l e R s m args below meth c nL cells slots Q E w σ q lv (.ref (eB E + oA 187 0) :: st)) : G p l e R s m args below meth c nL cells slots Q E w σ pc lv (.ref (eB E + 583) :: st) :=
  G_get (T := TX7) (k := 7) hC d hq (by decide) cell_X rfl inW7 (by decide) (wall (by decide +kernel) rfl) rfl rfl k
theorem gf_RX7_28 (hC : gCx p s m args meth c cc nL RX7 ret E) (d : decode cc pc = .ok (.getfield 28, 3)) (hq : pc + 3 = q) (k : G p l e R s m args below meth c nL cells slots Q E w σ q lv (.ref (eB E + oA 188 0) :: st)) : G p l e R s m args below meth c nL cells slots Q E w σ pc lv (.ref (eB E + 583) :: st) :=
  G_get (T := TX7) (k := 8) hC d hq (by decide) cell_X rfl inW7 (by decide) (wall (by decide +kernel) rfl) rfl rfl k
theorem gf_RX7_31 (hC : gCx p s m args meth c cc nL RX7 ret E) (d : decode cc pc = .ok (.getfield 31, 3)) (hq : pc + 3 = q) (k : G p l e R s m args below meth c nL cells slots Q E w σ q lv (.ref (eB E + oA 189 0) :: st)) : G p l e R s m args below meth c nL cells slots Q E w σ pc lv (.ref (eB E + 583) :: st) :=
  G_get (T := TX7) (k := 9) hC d hq (by decide) cell_X rfl inW7 (by decide) (wall (by decide +kernel) rfl) rfl rfl k
theorem gf_RX7_34 (hC : gCx p s m args meth c cc nL RX7 ret E) (d : decode cc pc = .ok (.getfield 34, 3)) (hq : pc + 3 = q) (k : G p l e R s m args below meth c nL cells slots Q E w σ q lv (.ref (eB E + oA 190 0) :: st)) : G p l e R s m args below meth c nL cells slots Q E w σ pc lv (.ref (eB E + 583) :: st) :=
  G_get (T := TX7) (k := 10) hC d hq (by decide) cell_X rfl inW7 (by decide) (wall (by decide +kernel) rfl) rfl rfl k
theorem gf_RX7_38 (hC : gCx p s m args meth c cc nL RX7 ret E) (d : decode cc pc = .ok (.getfield 38, 3)) (hq : pc + 3 = q) (k : G p l e R s m args below meth c nL cells slots Q E w σ q lv (.ref (eB E + oA 191 0) :: st)) : G p l e R s m args below meth c nL cells slots Q E w σ pc lv (.ref (eB E + 583) :: st) :=
  G_get (T := TX7) (k := 11) hC d hq (by decide) cell_X rfl inW7 (by decide) (wall (by decide +kernel) rfl) rfl rfl k
theorem gf_RX7_41 (hC : gCx p s m args meth c cc nL RX7 ret E) (d : decode cc pc = .ok (.getfield 41, 3)) (hq : pc + 3 = q) (k : G p l e R s m args below meth c nL cells slots Q E w σ q lv (.ref (eB E + oA 192 0) :: st)) : G p l e R s m args below meth c nL cells slots Q E w σ pc lv (.ref (eB E + 583) :: st) :=
  G_get (T := TX7) (k := 12) hC d hq (by decide) cell_X rfl inW7 (by decide) (wall (by decide +kernel) rfl) rfl rfl k
theorem gf_RX7_44 (hC : gCx p s m args meth c cc nL RX7 ret E) (d : decode cc pc = .ok (.getfield 44, 3)) (hq : pc + 3 = q) (k : G p l e R s m args below meth c nL cells slots Q E w σ q lv (.ref (eB E + oA 193 0) :: st)) : G p l e R s m args below meth c nL cells slots Q E w σ pc lv (.ref (eB E + 583) :: st) :=
  G_get (T := TX7) (k := 13) hC d hq (by decide) cell_X rfl inW7 (by decide) (wall (by decide +kernel) rfl) rfl rfl k
theorem gf_RX7_47 (hC : gCx p s m args meth c cc nL RX7 ret E) (d : decode cc pc = .ok (.getfield 47, 3)) (hq : pc + 3 = q) (k : G p l e R s m args below meth c nL cells slots Q E w σ q lv (.ref (eB E + oA 194 0) :: st)) : G p l e R s m args below meth c nL cells slots Q E w σ pc lv (.ref (eB E + 583) :: st) :=
  G_get (T := TX7) (k := 14) hC d hq (by decide) cell_X rfl inW7 (by decide) (wall (by decide +kernel) rfl) rfl rfl k
theorem gf_RX7_50 (hC : gCx p s m args meth c cc nL RX7 ret E) (d : decode cc pc = .ok (.getfield 50, 3)) (hq : pc + 3 = q) (k : G p l e R s m args below meth c nL cells slots Q E w σ q lv (.ref (eB E + oA 195 0) :: st)) : G p l e R s m args below meth c nL cells slots Q E w σ pc lv (.ref (eB E + 583) :: st) :=
  G_get (T := TX7) (k := 15) hC d hq (by decide) cell_X rfl inW7 (by decide) (wall (by decide +kernel) rfl) rfl rfl k
theorem gf_RX7_53 (hC : gCx p s m args meth c cc nL RX7 ret E) (d : decode cc pc = .ok (.getfield 53, 3)) (hq : pc + 3 = q) (k : G p l e R s m args below meth c nL cells slots Q E w σ q lv (.ref (eB E + oA 196 0) :: st)) : G p l e R s m args below meth c nL cells slots Q E w σ pc lv (.ref (eB E + 583) :: st) :=
  G_get (T := TX7) (k := 16) hC d hq (by decide) cell_X rfl inW7 (by decide) (wall (by decide +kernel) rfl) rfl rfl k
theorem gf_RX7_56 (hC : gCx p s m args meth c cc nL RX7 ret E) (d : decode cc pc = .ok (.getfield 56, 3)) (hq : pc + 3 = q) (k : G p l e R s m args below meth c nL cells slots Q E w σ q lv (.ref (eB E + oA 198 0) :: st)) : G p l e R s m args below meth c nL cells slots Q E w σ pc lv (.ref (eB E + 583) :: st) :=
  G_get (T := TX7) (k := 18) hC d hq (by decide) cell_X rfl inW7 (by decide) (wall (by decide +kernel) rfl) rfl rfl k
theorem gf_RX7_59 (hC : gCx p s m args meth c cc nL RX7 ret E) (d : decode cc pc = .ok (.getfield 59, 3)) (hq : pc + 3 = q) (k : G p l e R s m args below meth c nL cells slots Q E w σ q lv (.ref (eB E + oA 199 0) :: st)) : G p l e R s m args below meth c nL cells slots Q E w σ pc lv (.ref (eB E + 583) :: st) :=
  G_get (T := TX7) (k := 19) hC d hq (by decide) cell_X rfl inW7 (by decide) (wall (by decide +kernel) rfl) rfl rfl k
theorem gf_RX7_62 (hC : gCx p s m args meth c cc nL RX7 ret E) (d : decode cc pc = .ok (.getfield 62, 3)) (hq : pc + 3 = q) (k : G p l e R s m args below meth c nL cells slots Q E w σ q lv (.ref (eB E + oA 202 0) :: st)) : G p l e R s m args below meth c nL cells slots Q E w σ pc lv (.ref (eB E + 583) :: st) :=
  G_get (T := TX7) (k := 22) hC d hq (by decide) cell_X rfl inW7 (by decide) (wall (by decide +kernel) rfl) rfl rfl k
theorem gf_RX7_65 (hC : gCx p s m args meth c cc nL RX7 ret E) (d : decode cc pc = .ok (.getfield 65, 3)) (hq : pc + 3 = q) (k : G p l e R s m args below meth c nL cells slots Q E w σ q lv (.ref (eB E + oA 203 0) :: st)) : G p l e R s m args below meth c nL cells slots Q E w σ pc lv (.ref (eB E + 583) :: st) :=
  G_get (T := TX7) (k := 23) hC d hq (by decide) cell_X rfl inW7 (by decide) (wall (by decide +kernel) rfl) rfl rfl k
theorem gf_RX7_68 (hC : gCx p s m args meth c cc nL RX7 ret E) (d : decode cc pc = .ok (.getfield 68, 3)) (hq : pc + 3 = q) (k : G p l e R s m args below meth c nL cells slots Q E w σ q lv (.ref (eB E + oA 204 0) :: st)) : G p l e R s m args below meth c nL cells slots Q E w σ pc lv (.ref (eB E + 583) :: st) :=
  G_get (T := TX7) (k := 24) hC d hq (by decide) cell_X rfl inW7 (by decide) (wall (by decide +kernel) rfl) rfl rfl k
theorem gf_RX7_71 (hC : gCx p s m args meth c cc nL RX7 ret E) (d : decode cc pc = .ok (.getfield 71, 3)) (hq : pc + 3 = q) (k : G p l e R s m args below meth c nL cells slots Q E w σ q lv (.ref (eB E + oA 205 0) :: st)) : G p l e R s m args below meth c nL cells slots Q E w σ pc lv (.ref (eB E + 583) :: st) :=
  G_get (T := TX7) (k := 25) hC d hq (by decide) cell_X rfl inW7 (by decide) (wall (by decide +kernel) rfl) rfl rfl k
theorem gf_RX7_74 (hC : gCx p s m args meth c cc nL RX7 ret E) (d : decode cc pc = .ok (.getfield 74, 3)) (hq : pc + 3 = q) (k : G p l e R s m args below meth c nL cells slots Q E w σ q lv (.int (σ 209 0 0) :: st)) : G p l e R s m args below meth c nL cells slots Q E w σ pc lv (.ref (eB E + 583) :: st) :=
  G_get (T := TX7) (k := 29) hC d hq (by decide) cell_X rfl inW7 (by decide) (wall (by decide +kernel) rfl) rfl rfl k
theorem gf_RX7_78 (hC : gCx p s m args meth c cc nL RX7 ret E) (d : decode cc pc = .ok (.getfield 78, 3)) (hq : pc + 3 = q) (k : G p l e R s m args below meth c nL cells slots Q E w σ q lv (.int (σ 183 0 0) :: st)) : G p l e R s m args below meth c nL cells slots Q E w σ pc lv (.ref (eB E + 583) :: st) :=
  G_get (T := TX7) (k := 3) hC d hq (by decide) cell_X rfl inW7 (by decide) (wall (by decide +kernel) rfl) rfl rfl k
theorem gf_RX7_85 (hC : gCx p s m args meth c cc nL RX7 ret E) (d : decode cc pc = .ok (.getfield 85, 3)) (hq : pc + 3 = q) (k : G p l e R s m args below meth c nL cells slots Q E w σ q lv (.int (σ 201 0 0) :: st)) : G p l e R s m args below meth c nL cells slots Q E w σ pc lv (.ref (eB E + 583) :: st) :=
  G_get (T := TX7) (k := 21) hC d hq (by decide) cell_X rfl inW7 (by decide) (wall (by decide +kernel) rfl) rfl rfl k
theorem gf_RX7_88 (hC : gCx p s m args meth c cc nL RX7 ret E) (d : decode cc pc = .ok (.getfield 88, 3)) (hq : pc + 3 = q) (k : G p l e R s m args below meth c nL cells slots Q E w σ q lv (.int (σ 180 0 0) :: st)) : G p l e R s m args below meth c nL cells slots Q E w σ pc lv (.ref (eB E + 583) :: st) :=
  G_get (T := TX7) (k := 0) hC d hq (by decide) cell_X rfl inW7 (by decide) (wall (by decide +kernel) rfl) rfl rfl k
theorem gf_RX7_96 (hC : gCx p s m args meth c cc nL RX7 ret E) (d : decode cc pc = .ok (.getfield 96, 3)) (hq : pc + 3 = q) (k : G p l e R s m args below meth c nL cells slots Q E w σ q lv (.int (σ 197 0 0) :: st)) : G p l e R s m args below meth c nL cells slots Q E w σ pc lv (.ref (eB E + 583) :: st) :=
  G_get (T := TX7) (k := 17) hC d hq (by decide) cell_X rfl inW7 (by decide) (wall (by decide +kernel) rfl) rfl rfl k
theorem gf_RX7_107 (hC : gCx p s m args meth c cc nL RX7 ret E) (d : decode cc pc = .ok (.getfield 107, 3)) (hq : pc + 3 = q) (k : G p l e R s m args below meth c nL cells slots Q E w σ q lv (.int (σ 200 0 0) :: st)) : G p l e R s m args below meth c nL cells slots Q E w σ pc lv (.ref (eB E + 583) :: st) :=
  G_get (T := TX7) (k := 20) hC d hq (by decide) cell_X rfl inW7 (by decide) (wall (by decide +kernel) rfl) rfl rfl k
theorem gf_RX7_148 (hC : gCx p s m args meth c cc nL RX7 ret E) (d : decode cc pc = .ok (.getfield 148, 3)) (hq : pc + 3 = q) (k : G p l e R s m args below meth c nL cells slots Q E w σ q lv (.int (σ 207 0 0) :: st)) : G p l e R s m args below meth c nL cells slots Q E w σ pc lv (.ref (eB E + 583) :: st) :=
  G_get (T := TX7) (k := 27) hC d hq (by decide) cell_X rfl inW7 (by decide) (wall (by decide +kernel) rfl) rfl rfl k
theorem gf_RX7_157 (hC : gCx p s m args meth c cc nL RX7 ret E) (d : decode cc pc = .ok (.getfield 157, 3)) (hq : pc + 3 = q) (k : G p l e R s m args below meth c nL cells slots Q E w σ q lv (.int (σ 206 0 0) :: st)) : G p l e R s m args below meth c nL cells slots Q E w σ pc lv (.ref (eB E + 583) :: st) :=
  G_get (T := TX7) (k := 26) hC d hq (by decide) cell_X rfl inW7 (by decide) (wall (by decide +kernel) rfl) rfl rfl k
theorem gf_RX7_173 (hC : gCx p s m args meth c cc nL RX7 ret E) (d : decode cc pc = .ok (.getfield 173, 3)) (hq : pc + 3 = q) (k : G p l e R s m args below meth c nL cells slots Q E w σ q lv (.int (σ 208 0 0) :: st)) : G p l e R s m args below meth c nL cells slots Q E w σ pc lv (.ref (eB E + 583) :: st) :=
  G_get (T := TX7) (k := 28) hC d hq (by decide) cell_X rfl inW7 (by decide) (wall (by decide +kernel) rfl) rfl rfl k
theorem pf_RX6_74 {x : Int32} (hC : gCx p s m args meth c cc nL RX6 ret E) (d : decode cc pc = .ok (.putfield 74, 3)) (hq : pc + 3 = q) (k : G p l e R s m args below meth c nL cells slots Q E w (gU σ 158 0 0 x) q lv st) : G p l e R s m args below meth c nL cells slots Q E w σ pc lv (.int x :: .ref (eB E + 0) :: st) :=
  G_put (T := TX6) (k := 8) (F := 158) (i := 0) (ty := .int) hC d hq (by decide) cell_M rfl inW6 (by decide) (wall (by decide +kernel) rfl) rfl rfl (by rw [cell_M]; simp [gU]) tyX6 tyX6_ok nmX6 rfl (by decide +kernel) rfl rfl (Nat.le_of_ble_eq_true rfl) k
theorem pf_RX6_79 {x : Int32} (hC : gCx p s m args meth c cc nL RX6 ret E) (d : decode cc pc = .ok (.putfield 79, 3)) (hq : pc + 3 = q) (hb : b01 x = true) (k : G p l e R s m args below meth c nL cells slots Q E w (gU σ 161 0 0 x) q lv st) : G p l e R s m args below meth c nL cells slots Q E w σ pc lv (.int x :: .ref (eB E + 0) :: st) :=
  G_put (T := TX6) (k := 11) (F := 161) (i := 0) (ty := .boolean) hC d hq (by decide) cell_M rfl inW6 (by decide) (wall (by decide +kernel) rfl) rfl rfl (by rw [cell_M]; simp [gU]) tyX6 tyX6_ok nmX6 rfl (by decide +kernel) (b01_narrow hb) (b01_fits hb) (Nat.le_of_ble_eq_true rfl) k
theorem pf_RX6_89 {x : Int32} (hC : gCx p s m args meth c cc nL RX6 ret E) (d : decode cc pc = .ok (.putfield 89, 3)) (hq : pc + 3 = q) (k : G p l e R s m args below meth c nL cells slots Q E w (gU σ 156 0 0 x) q lv st) : G p l e R s m args below meth c nL cells slots Q E w σ pc lv (.int x :: .ref (eB E + 0) :: st) :=
  G_put (T := TX6) (k := 6) (F := 156) (i := 0) (ty := .int) hC d hq (by decide) cell_M rfl inW6 (by decide) (wall (by decide +kernel) rfl) rfl rfl (by rw [cell_M]; simp [gU]) tyX6 tyX6_ok nmX6 rfl (by decide +kernel) rfl rfl (Nat.le_of_ble_eq_true rfl) k
theorem pf_RX6_98 {i : Nat} {x : Int32} (hC : gCx p s m args meth c cc nL RX6 ret E) (d : decode cc pc = .ok (.putfield 98, 3)) (hq : pc + 3 = q) (hi : i < 24) (k : G p l e R s m args below meth c nL cells slots Q E w (gU σ 5 i 0 x) q lv st) : G p l e R s m args below meth c nL cells slots Q E w σ pc lv (.int x :: .ref (eB E + oArt i) :: st) :=
  G_putN (host := RX6) (T := TX0) (k := 5) (F := 5) (i := i) (ty := .int) hC d hq (dec_art i hi).2 (cell_Art hi) rfl inW0 (by decide) (by decide +kernel) rfl rfl (by rw [cell_Art hi]; simp [gU]) tyX0 tyX0_ok nmX0 rfl (by decide +kernel) rfl rfl (Nat.le_of_ble_eq_true rfl) k
theorem pf_RX6_101 {i : Nat} {x : Int32} (hC : gCx p s m args meth c cc nL RX6 ret E) (d : decode cc pc = .ok (.putfield 101, 3)) (hq : pc + 3 = q) (hi : i < 24) (k : G p l e R s m args below meth c nL cells slots Q E w (gU σ 6 i 0 x) q lv st) : G p l e R s m args below meth c nL cells slots Q E w σ pc lv (.int x :: .ref (eB E + oArt i) :: st) :=
  G_putN (host := RX6) (T := TX0) (k := 6) (F := 6) (i := i) (ty := .int) hC d hq (dec_art i hi).2 (cell_Art hi) rfl inW0 (by decide) (by decide +kernel) rfl rfl (by rw [cell_Art hi]; simp [gU]) tyX0 tyX0_ok nmX0 rfl (by decide +kernel) rfl rfl (Nat.le_of_ble_eq_true rfl) k
theorem pf_RX6_119 {i : Nat} {x : Int32} (hC : gCx p s m args meth c cc nL RX6 ret E) (d : decode cc pc = .ok (.putfield 119, 3)) (hq : pc + 3 = q) (hi : i < 24) (k : G p l e R s m args below meth c nL cells slots Q E w (gU σ 4 i 0 x) q lv st) : G p l e R s m args below meth c nL cells slots Q E w σ pc lv (.int x :: .ref (eB E + oArt i) :: st) :=
  G_putN (host := RX6) (T := TX0) (k := 4) (F := 4) (i := i) (ty := .int) hC d hq (dec_art i hi).2 (cell_Art hi) rfl inW0 (by decide) (by decide +kernel) rfl rfl (by rw [cell_Art hi]; simp [gU]) tyX0 tyX0_ok nmX0 rfl (by decide +kernel) rfl rfl (Nat.le_of_ble_eq_true rfl) k
theorem pf_RX6_145 {i : Nat} {x : Int32} (hC : gCx p s m args meth c cc nL RX6 ret E) (d : decode cc pc = .ok (.putfield 145, 3)) (hq : pc + 3 = q) (hi : i < 24) (hb : b01 x = true) (k : G p l e R s m args below meth c nL cells slots Q E w (gU σ 10 i 0 x) q lv st) : G p l e R s m args below meth c nL cells slots Q E w σ pc lv (.int x :: .ref (eB E + oArt i) :: st) :=
  G_putN (host := RX6) (T := TX0) (k := 10) (F := 10) (i := i) (ty := .boolean) hC d hq (dec_art i hi).2 (cell_Art hi) rfl inW0 (by decide) (by decide +kernel) rfl rfl (by rw [cell_Art hi]; simp [gU]) tyX0 tyX0_ok nmX0 rfl (by decide +kernel) (b01_narrow hb) (b01_fits hb) (Nat.le_of_ble_eq_true rfl) k
theorem pf_RX6_150 {x : Int32} (hC : gCx p s m args meth c cc nL RX6 ret E) (d : decode cc pc = .ok (.putfield 150, 3)) (hq : pc + 3 = q) (k : G p l e R s m args below meth c nL cells slots Q E w (gU σ 157 0 0 x) q lv st) : G p l e R s m args below meth c nL cells slots Q E w σ pc lv (.int x :: .ref (eB E + 0) :: st) :=
  G_put (T := TX6) (k := 7) (F := 157) (i := 0) (ty := .int) hC d hq (by decide) cell_M rfl inW6 (by decide) (wall (by decide +kernel) rfl) rfl rfl (by rw [cell_M]; simp [gU]) tyX6 tyX6_ok nmX6 rfl (by decide +kernel) rfl rfl (Nat.le_of_ble_eq_true rfl) k
theorem pf_RX6_153 {i : Nat} {x : Int32} (hC : gCx p s m args meth c cc nL RX6 ret E) (d : decode cc pc = .ok (.putfield 153, 3)) (hq : pc + 3 = q) (hi : i < 4) (hb : isC x = true) (k : G p l e R s m args below meth c nL cells slots Q E w (gU σ 120 i 0 x) q lv st) : G p l e R s m args below meth c nL cells slots Q E w σ pc lv (.int x :: .ref (eB E + oVol i) :: st) :=
  G_putN (host := RX6) (T := TX5) (k := 0) (F := 120) (i := i) (ty := .char) hC d hq (dec_vol i hi).2 (cell_Vol hi) rfl inW5 (by decide) (by decide +kernel) rfl rfl (by rw [cell_Vol hi]; simp [gU]) tyX5 tyX5_ok nmX5 rfl (by decide +kernel) (isC_narrow hb) (isC_fits hb) (Nat.le_of_ble_eq_true rfl) k
theorem pf_RX6_161 {i : Nat} {x : Int32} (hC : gCx p s m args meth c cc nL RX6 ret E) (d : decode cc pc = .ok (.putfield 161, 3)) (hq : pc + 3 = q) (hi : i < 4) (k : G p l e R s m args below meth c nL cells slots Q E w (gU σ 121 i 0 x) q lv st) : G p l e R s m args below meth c nL cells slots Q E w σ pc lv (.int x :: .ref (eB E + oVol i) :: st) :=
  G_putN (host := RX6) (T := TX5) (k := 1) (F := 121) (i := i) (ty := .int) hC d hq (dec_vol i hi).2 (cell_Vol hi) rfl inW5 (by decide) (by decide +kernel) rfl rfl (by rw [cell_Vol hi]; simp [gU]) tyX5 tyX5_ok nmX5 rfl (by decide +kernel) rfl rfl (Nat.le_of_ble_eq_true rfl) k
theorem pf_RX6_166 {x : Int32} (hC : gCx p s m args meth c cc nL RX6 ret E) (d : decode cc pc = .ok (.putfield 166, 3)) (hq : pc + 3 = q) (k : G p l e R s m args below meth c nL cells slots Q E w (gU σ 159 0 0 x) q lv st) : G p l e R s m args below meth c nL cells slots Q E w σ pc lv (.int x :: .ref (eB E + 0) :: st) :=
  G_put (T := TX6) (k := 9) (F := 159) (i := 0) (ty := .int) hC d hq (by decide) cell_M rfl inW6 (by decide) (wall (by decide +kernel) rfl) rfl rfl (by rw [cell_M]; simp [gU]) tyX6 tyX6_ok nmX6 rfl (by decide +kernel) rfl rfl (Nat.le_of_ble_eq_true rfl) k
theorem pf_RX6_171 {i : Nat} {x : Int32} (hC : gCx p s m args meth c cc nL RX6 ret E) (d : decode cc pc = .ok (.putfield 171, 3)) (hq : pc + 3 = q) (hi : i < 6) (k : G p l e R s m args below meth c nL cells slots Q E w (gU σ 33 i 0 x) q lv st) : G p l e R s m args below meth c nL cells slots Q E w σ pc lv (.int x :: .ref (eB E + oCon i) :: st) :=
  G_putN (host := RX6) (T := TX1) (k := 3) (F := 33) (i := i) (ty := .int) hC d hq (dec_con i hi).2 (cell_Con hi) rfl inW1 (by decide) (by decide +kernel) rfl rfl (by rw [cell_Con hi]; simp [gU]) tyX1 tyX1_ok nmX1 rfl (by decide +kernel) rfl rfl (Nat.le_of_ble_eq_true rfl) k
theorem pf_RX6_186 {i : Nat} {x : Int32} (hC : gCx p s m args meth c cc nL RX6 ret E) (d : decode cc pc = .ok (.putfield 186, 3)) (hq : pc + 3 = q) (hi : i < 6) (hb : b01 x = true) (k : G p l e R s m args below meth c nL cells slots Q E w (gU σ 35 i 0 x) q lv st) : G p l e R s m args below meth c nL cells slots Q E w σ pc lv (.int x :: .ref (eB E + oCon i) :: st) :=
  G_putN (host := RX6) (T := TX1) (k := 5) (F := 35) (i := i) (ty := .boolean) hC d hq (dec_con i hi).2 (cell_Con hi) rfl inW1 (by decide) (by decide +kernel) rfl rfl (by rw [cell_Con hi]; simp [gU]) tyX1 tyX1_ok nmX1 rfl (by decide +kernel) (b01_narrow hb) (b01_fits hb) (Nat.le_of_ble_eq_true rfl) k
theorem pf_RX6_195 {i : Nat} {x : Int32} (hC : gCx p s m args meth c cc nL RX6 ret E) (d : decode cc pc = .ok (.putfield 195, 3)) (hq : pc + 3 = q) (hi : i < 24) (k : G p l e R s m args below meth c nL cells slots Q E w (gU σ 7 i 0 x) q lv st) : G p l e R s m args below meth c nL cells slots Q E w σ pc lv (.int x :: .ref (eB E + oArt i) :: st) :=
  G_putN (host := RX6) (T := TX0) (k := 7) (F := 7) (i := i) (ty := .int) hC d hq (dec_art i hi).2 (cell_Art hi) rfl inW0 (by decide) (by decide +kernel) rfl rfl (by rw [cell_Art hi]; simp [gU]) tyX0 tyX0_ok nmX0 rfl (by decide +kernel) rfl rfl (Nat.le_of_ble_eq_true rfl) k
theorem pf_RX6_201 {i : Nat} {x : Int32} (hC : gCx p s m args meth c cc nL RX6 ret E) (d : decode cc pc = .ok (.putfield 201, 3)) (hq : pc + 3 = q) (hi : i < 6) (k : G p l e R s m args below meth c nL cells slots Q E w (gU σ 32 i 0 x) q lv st) : G p l e R s m args below meth c nL cells slots Q E w σ pc lv (.int x :: .ref (eB E + oCon i) :: st) :=
  G_putN (host := RX6) (T := TX1) (k := 2) (F := 32) (i := i) (ty := .int) hC d hq (dec_con i hi).2 (cell_Con hi) rfl inW1 (by decide) (by decide +kernel) rfl rfl (by rw [cell_Con hi]; simp [gU]) tyX1 tyX1_ok nmX1 rfl (by decide +kernel) rfl rfl (Nat.le_of_ble_eq_true rfl) k
theorem pf_RX6_213 {i : Nat} {x : Int32} (hC : gCx p s m args meth c cc nL RX6 ret E) (d : decode cc pc = .ok (.putfield 213, 3)) (hq : pc + 3 = q) (hi : i < 24) (k : G p l e R s m args below meth c nL cells slots Q E w (gU σ 8 i 0 x) q lv st) : G p l e R s m args below meth c nL cells slots Q E w σ pc lv (.int x :: .ref (eB E + oArt i) :: st) :=
  G_putN (host := RX6) (T := TX0) (k := 8) (F := 8) (i := i) (ty := .int) hC d hq (dec_art i hi).2 (cell_Art hi) rfl inW0 (by decide) (by decide +kernel) rfl rfl (by rw [cell_Art hi]; simp [gU]) tyX0 tyX0_ok nmX0 rfl (by decide +kernel) rfl rfl (Nat.le_of_ble_eq_true rfl) k
theorem pf_RX6_218 {x : Int32} (hC : gCx p s m args meth c cc nL RX6 ret E) (d : decode cc pc = .ok (.putfield 218, 3)) (hq : pc + 3 = q) (k : G p l e R s m args below meth c nL cells slots Q E w (gU σ 160 0 0 x) q lv st) : G p l e R s m args below meth c nL cells slots Q E w σ pc lv (.int x :: .ref (eB E + 0) :: st) :=
  G_put (T := TX6) (k := 10) (F := 160) (i := 0) (ty := .int) hC d hq (by decide) cell_M rfl inW6 (by decide) (wall (by decide +kernel) rfl) rfl rfl (by rw [cell_M]; simp [gU]) tyX6 tyX6_ok nmX6 rfl (by decide +kernel) rfl rfl (Nat.le_of_ble_eq_true rfl) k
theorem pf_RX6_276 {i : Nat} {x : Int32} (hC : gCx p s m args meth c cc nL RX6 ret E) (d : decode cc pc = .ok (.putfield 276, 3)) (hq : pc + 3 = q) (hi : i < 6) (k : G p l e R s m args below meth c nL cells slots Q E w (gU σ 34 i 0 x) q lv st) : G p l e R s m args below meth c nL cells slots Q E w σ pc lv (.int x :: .ref (eB E + oCon i) :: st) :=
  G_putN (host := RX6) (T := TX1) (k := 4) (F := 34) (i := i) (ty := .int) hC d hq (dec_con i hi).2 (cell_Con hi) rfl inW1 (by decide) (by decide +kernel) rfl rfl (by rw [cell_Con hi]; simp [gU]) tyX1 tyX1_ok nmX1 rfl (by decide +kernel) rfl rfl (Nat.le_of_ble_eq_true rfl) k
theorem pf_RX6_341 {i : Nat} {x : Int32} (hC : gCx p s m args meth c cc nL RX6 ret E) (d : decode cc pc = .ok (.putfield 341, 3)) (hq : pc + 3 = q) (hi : i < 24) (hb : b01 x = true) (k : G p l e R s m args below meth c nL cells slots Q E w (gU σ 9 i 0 x) q lv st) : G p l e R s m args below meth c nL cells slots Q E w σ pc lv (.int x :: .ref (eB E + oArt i) :: st) :=
  G_putN (host := RX6) (T := TX0) (k := 9) (F := 9) (i := i) (ty := .boolean) hC d hq (dec_art i hi).2 (cell_Art hi) rfl inW0 (by decide) (by decide +kernel) rfl rfl (by rw [cell_Art hi]; simp [gU]) tyX0 tyX0_ok nmX0 rfl (by decide +kernel) (b01_narrow hb) (b01_fits hb) (Nat.le_of_ble_eq_true rfl) k
theorem pf_RX6_354 {i : Nat} {x : Int32} (hC : gCx p s m args meth c cc nL RX6 ret E) (d : decode cc pc = .ok (.putfield 354, 3)) (hq : pc + 3 = q) (hi : i < 96) (kk : G p l e R s m args below meth c nL cells slots Q E w (gU σ 91 i 0 x) q lv st) : G p l e R s m args below meth c nL cells slots Q E w σ pc lv (.ref (eF E x.toNatClampNeg) :: .ref (eB E + oRef i) :: st) := by
  subst hq
  intro H locs ls hP hS hl
  refine va_putN (host := RX6) (C := RX4) (T := TX4) (N := 2) (ty := .object "CircleOfLeaves$Fate") hC.1 hC.2.1 hC.2.2.2.2.1 inW4 tyX4 tyX4_ok nmX4 hC.2.2.2.1 hC.2.2.2.2.2.1.1 hP gD hS (oRef i) (by rw [gW_at (dec_ref i hi).2, cell_Ref hi]) rfl 1 (by decide) (va_Nw.use rfl (hC.2.2.2.2.2.1.2.1 _ (by decide +kernel))) (fun _ h => h) rfl (by decide +kernel) rfl rfl (Nat.le_of_ble_eq_true rfl) d (fun H1 locs1 hP1 _ hS1 => ?_)
  rw [gW_set (σ' := gU σ 91 i 0 x) (by rw [cell_Ref hi]; simp [gU]) (fun o' h1 h2 => by rw [gU_R]; exact gC_ne h1 (by exact h2))] at hP1
  exact kk H1 locs1 ls hP1 hS1 hl
theorem pf_RX0_43 {i : Nat} {x : Int32} (hC : gCx p s m args meth c cc nL RX0 ret E) (d : decode cc pc = .ok (.putfield 43, 3)) (hq : pc + 3 = q) (hi : i < 24) (hb : b01 x = true) (k : G p l e R s m args below meth c nL cells slots Q E w (gU σ 11 i 0 x) q lv st) : G p l e R s m args below meth c nL cells slots Q E w σ pc lv (.int x :: .ref (eB E + oArt i) :: st) :=
  G_put (T := TX0) (k := 11) (F := 11) (i := i) (ty := .boolean) hC d hq (dec_art i hi).2 (cell_Art hi) rfl inW0 (by decide) (wall (by decide +kernel) rfl) rfl rfl (by rw [cell_Art hi]; simp [gU]) tyX0 tyX0_ok nmX0 rfl (by decide +kernel) (b01_narrow hb) (b01_fits hb) (Nat.le_of_ble_eq_true rfl) k
theorem pf_RX1_23 {i : Nat} {x : Int32} (hC : gCx p s m args meth c cc nL RX1 ret E) (d : decode cc pc = .ok (.putfield 23, 3)) (hq : pc + 3 = q) (hi : i < 6) (k : G p l e R s m args below meth c nL cells slots Q E w (gU σ 32 i 0 x) q lv st) : G p l e R s m args below meth c nL cells slots Q E w σ pc lv (.int x :: .ref (eB E + oCon i) :: st) :=
  G_put (T := TX1) (k := 2) (F := 32) (i := i) (ty := .int) hC d hq (dec_con i hi).2 (cell_Con hi) rfl inW1 (by decide) (wall (by decide +kernel) rfl) rfl rfl (by rw [cell_Con hi]; simp [gU]) tyX1 tyX1_ok nmX1 rfl (by decide +kernel) rfl rfl (Nat.le_of_ble_eq_true rfl) k
theorem pf_RX3_18 {i : Nat} {x : Int32} (hC : gCx p s m args meth c cc nL RX3 ret E) (d : decode cc pc = .ok (.putfield 18, 3)) (hq : pc + 3 = q) (hi : i < 121) (k : G p l e R s m args below meth c nL cells slots Q E w (gU σ 62 i 0 x) q lv st) : G p l e R s m args below meth c nL cells slots Q E w σ pc lv (.int x :: .ref (eB E + oHw i) :: st) :=
  G_put (T := TX3) (k := 2) (F := 62) (i := i) (ty := .int) hC d hq (dec_hw i hi).2 (cell_Hw hi) rfl inW3 (by decide) (wall (by decide +kernel) rfl) rfl rfl (by rw [cell_Hw hi]; simp [gU]) tyX3 tyX3_ok nmX3 rfl (by decide +kernel) rfl rfl (Nat.le_of_ble_eq_true rfl) k
theorem pf_RX3_29 {i : Nat} {x : Int32} (hC : gCx p s m args meth c cc nL RX3 ret E) (d : decode cc pc = .ok (.putfield 29, 3)) (hq : pc + 3 = q) (hi : i < 121) (k : G p l e R s m args below meth c nL cells slots Q E w (gU σ 63 i 0 x) q lv st) : G p l e R s m args below meth c nL cells slots Q E w σ pc lv (.int x :: .ref (eB E + oHw i) :: st) :=
  G_put (T := TX3) (k := 3) (F := 63) (i := i) (ty := .int) hC d hq (dec_hw i hi).2 (cell_Hw hi) rfl inW3 (by decide) (wall (by decide +kernel) rfl) rfl rfl (by rw [cell_Hw hi]; simp [gU]) tyX3 tyX3_ok nmX3 rfl (by decide +kernel) rfl rfl (Nat.le_of_ble_eq_true rfl) k
theorem pf_RX7_74 {x : Int32} (hC : gCx p s m args meth c cc nL RX7 ret E) (d : decode cc pc = .ok (.putfield 74, 3)) (hq : pc + 3 = q) (k : G p l e R s m args below meth c nL cells slots Q E w (gU σ 209 0 0 x) q lv st) : G p l e R s m args below meth c nL cells slots Q E w σ pc lv (.int x :: .ref (eB E + 583) :: st) :=
  G_put (T := TX7) (k := 29) (F := 209) (i := 0) (ty := .int) hC d hq (by decide) cell_X rfl inW7 (by decide) (wall (by decide +kernel) rfl) rfl rfl (by rw [cell_X]; simp [gU]) tyX7 tyX7_ok nmX7 rfl (by decide +kernel) rfl rfl (Nat.le_of_ble_eq_true rfl) k
theorem pf_RX7_78 {x : Int32} (hC : gCx p s m args meth c cc nL RX7 ret E) (d : decode cc pc = .ok (.putfield 78, 3)) (hq : pc + 3 = q) (k : G p l e R s m args below meth c nL cells slots Q E w (gU σ 183 0 0 x) q lv st) : G p l e R s m args below meth c nL cells slots Q E w σ pc lv (.int x :: .ref (eB E + 583) :: st) :=
  G_put (T := TX7) (k := 3) (F := 183) (i := 0) (ty := .int) hC d hq (by decide) cell_X rfl inW7 (by decide) (wall (by decide +kernel) rfl) rfl rfl (by rw [cell_X]; simp [gU]) tyX7 tyX7_ok nmX7 rfl (by decide +kernel) rfl rfl (Nat.le_of_ble_eq_true rfl) k
theorem pf_RX7_85 {x : Int32} (hC : gCx p s m args meth c cc nL RX7 ret E) (d : decode cc pc = .ok (.putfield 85, 3)) (hq : pc + 3 = q) (k : G p l e R s m args below meth c nL cells slots Q E w (gU σ 201 0 0 x) q lv st) : G p l e R s m args below meth c nL cells slots Q E w σ pc lv (.int x :: .ref (eB E + 583) :: st) :=
  G_put (T := TX7) (k := 21) (F := 201) (i := 0) (ty := .int) hC d hq (by decide) cell_X rfl inW7 (by decide) (wall (by decide +kernel) rfl) rfl rfl (by rw [cell_X]; simp [gU]) tyX7 tyX7_ok nmX7 rfl (by decide +kernel) rfl rfl (Nat.le_of_ble_eq_true rfl) k
theorem pf_RX7_88 {x : Int32} (hC : gCx p s m args meth c cc nL RX7 ret E) (d : decode cc pc = .ok (.putfield 88, 3)) (hq : pc + 3 = q) (hb : b01 x = true) (k : G p l e R s m args below meth c nL cells slots Q E w (gU σ 180 0 0 x) q lv st) : G p l e R s m args below meth c nL cells slots Q E w σ pc lv (.int x :: .ref (eB E + 583) :: st) :=
  G_put (T := TX7) (k := 0) (F := 180) (i := 0) (ty := .boolean) hC d hq (by decide) cell_X rfl inW7 (by decide) (wall (by decide +kernel) rfl) rfl rfl (by rw [cell_X]; simp [gU]) tyX7 tyX7_ok nmX7 rfl (by decide +kernel) (b01_narrow hb) (b01_fits hb) (Nat.le_of_ble_eq_true rfl) k
theorem pf_RX7_96 {x : Int32} (hC : gCx p s m args meth c cc nL RX7 ret E) (d : decode cc pc = .ok (.putfield 96, 3)) (hq : pc + 3 = q) (k : G p l e R s m args below meth c nL cells slots Q E w (gU σ 197 0 0 x) q lv st) : G p l e R s m args below meth c nL cells slots Q E w σ pc lv (.int x :: .ref (eB E + 583) :: st) :=
  G_put (T := TX7) (k := 17) (F := 197) (i := 0) (ty := .int) hC d hq (by decide) cell_X rfl inW7 (by decide) (wall (by decide +kernel) rfl) rfl rfl (by rw [cell_X]; simp [gU]) tyX7 tyX7_ok nmX7 rfl (by decide +kernel) rfl rfl (Nat.le_of_ble_eq_true rfl) k
theorem pf_RX7_107 {x : Int32} (hC : gCx p s m args meth c cc nL RX7 ret E) (d : decode cc pc = .ok (.putfield 107, 3)) (hq : pc + 3 = q) (k : G p l e R s m args below meth c nL cells slots Q E w (gU σ 200 0 0 x) q lv st) : G p l e R s m args below meth c nL cells slots Q E w σ pc lv (.int x :: .ref (eB E + 583) :: st) :=
  G_put (T := TX7) (k := 20) (F := 200) (i := 0) (ty := .int) hC d hq (by decide) cell_X rfl inW7 (by decide) (wall (by decide +kernel) rfl) rfl rfl (by rw [cell_X]; simp [gU]) tyX7 tyX7_ok nmX7 rfl (by decide +kernel) rfl rfl (Nat.le_of_ble_eq_true rfl) k
theorem pf_RX7_148 {x : Int32} (hC : gCx p s m args meth c cc nL RX7 ret E) (d : decode cc pc = .ok (.putfield 148, 3)) (hq : pc + 3 = q) (k : G p l e R s m args below meth c nL cells slots Q E w (gU σ 207 0 0 x) q lv st) : G p l e R s m args below meth c nL cells slots Q E w σ pc lv (.int x :: .ref (eB E + 583) :: st) :=
  G_put (T := TX7) (k := 27) (F := 207) (i := 0) (ty := .int) hC d hq (by decide) cell_X rfl inW7 (by decide) (wall (by decide +kernel) rfl) rfl rfl (by rw [cell_X]; simp [gU]) tyX7 tyX7_ok nmX7 rfl (by decide +kernel) rfl rfl (Nat.le_of_ble_eq_true rfl) k
theorem pf_RX7_157 {x : Int32} (hC : gCx p s m args meth c cc nL RX7 ret E) (d : decode cc pc = .ok (.putfield 157, 3)) (hq : pc + 3 = q) (k : G p l e R s m args below meth c nL cells slots Q E w (gU σ 206 0 0 x) q lv st) : G p l e R s m args below meth c nL cells slots Q E w σ pc lv (.int x :: .ref (eB E + 583) :: st) :=
  G_put (T := TX7) (k := 26) (F := 206) (i := 0) (ty := .int) hC d hq (by decide) cell_X rfl inW7 (by decide) (wall (by decide +kernel) rfl) rfl rfl (by rw [cell_X]; simp [gU]) tyX7 tyX7_ok nmX7 rfl (by decide +kernel) rfl rfl (Nat.le_of_ble_eq_true rfl) k
theorem pf_RX7_173 {x : Int32} (hC : gCx p s m args meth c cc nL RX7 ret E) (d : decode cc pc = .ok (.putfield 173, 3)) (hq : pc + 3 = q) (k : G p l e R s m args below meth c nL cells slots Q E w (gU σ 208 0 0 x) q lv st) : G p l e R s m args below meth c nL cells slots Q E w σ pc lv (.int x :: .ref (eB E + 583) :: st) :=
  G_put (T := TX7) (k := 28) (F := 208) (i := 0) (ty := .int) hC d hq (by decide) cell_X rfl inW7 (by decide) (wall (by decide +kernel) rfl) rfl rfl (by rw [cell_X]; simp [gU]) tyX7 tyX7_ok nmX7 rfl (by decide +kernel) rfl rfl (Nat.le_of_ble_eq_true rfl) k
theorem gs_RX6_266 (hC : gCx p s m args meth c cc nL RX6 ret E) (d : decode cc pc = .ok (.getstatic 266, 3)) (hq : pc + 3 = q) (k : G p l e R s m args below meth c nL cells slots Q E w σ q lv (.ref (eF E (3 : Int32).toNatClampNeg) :: st)) : G p l e R s m args below meth c nL cells slots Q E w σ pc lv st :=
  G_fate (n := 3) (nm := "STRUCK") hC d hq rfl (wall (by decide +kernel) rfl) (by rw [fc_3] at k; exact k)
theorem gs_RX6_357 (hC : gCx p s m args meth c cc nL RX6 ret E) (d : decode cc pc = .ok (.getstatic 357, 3)) (hq : pc + 3 = q) (k : G p l e R s m args below meth c nL cells slots Q E w σ q lv (.ref (eF E (0 : Int32).toNatClampNeg) :: st)) : G p l e R s m args below meth c nL cells slots Q E w σ pc lv st :=
  G_fate (n := 0) (nm := "UNSEEN") hC d hq rfl (wall (by decide +kernel) rfl) (by rw [fc_0] at k; exact k)
theorem gs_RX6_367 (hC : gCx p s m args meth c cc nL RX6 ret E) (d : decode cc pc = .ok (.getstatic 367, 3)) (hq : pc + 3 = q) (k : G p l e R s m args below meth c nL cells slots Q E w σ q lv (.ref (eF E (1 : Int32).toNatClampNeg) :: st)) : G p l e R s m args below meth c nL cells slots Q E w σ pc lv st :=
  G_fate (n := 1) (nm := "STANDING") hC d hq rfl (wall (by decide +kernel) rfl) (by rw [fc_1] at k; exact k)
theorem gs_RX6_370 (hC : gCx p s m args meth c cc nL RX6 ret E) (d : decode cc pc = .ok (.getstatic 370, 3)) (hq : pc + 3 = q) (k : G p l e R s m args below meth c nL cells slots Q E w σ q lv (.ref (eF E (2 : Int32).toNatClampNeg) :: st)) : G p l e R s m args below meth c nL cells slots Q E w σ pc lv st :=
  G_fate (n := 2) (nm := "PROMISED") hC d hq rfl (wall (by decide +kernel) rfl) (by rw [fc_2] at k; exact k)
theorem gs_RX6_383 (hC : gCx p s m args meth c cc nL RX6 ret E) (d : decode cc pc = .ok (.getstatic 383, 3)) (hq : pc + 3 = q) (k : G p l e R s m args below meth c nL cells slots Q E w σ q lv (.ref (eF E (4 : Int32).toNatClampNeg) :: st)) : G p l e R s m args below meth c nL cells slots Q E w σ pc lv st :=
  G_fate (n := 4) (nm := "TOLD") hC d hq rfl (wall (by decide +kernel) rfl) (by rw [fc_4] at k; exact k)
end GL
end
section
/-! by program: a row a call of the pools -/
section GL2
variable {p : Program} {l : Launch} {e : Env} {R : Room} {s : State} {m : MethodId} {args : Array Value} {below : List Frame} {meth : Method} {c : Code} {nL cells slots : Nat} {Q : State → Prop} {E : gE} {w : Nat → Int64} {σ : gSt} {pc q : Nat} {lv lv' : List (Nat × Value)} {st st' : List Value} {cc : ByteArray} {own : String} {ret : Option FieldType}
theorem gw_X0_isBlind (own : String) (idx : Nat) : gcV own idx RX0 yX0_isBlind cX0_isBlind 1 (some .boolean) 0 := ⟨wall (by decide +kernel) rfl, wall (by decide +kernel) rfl, wall (by decide +kernel) rfl, wall (by decide +kernel) rfl, ⟨by decide +kernel, by decide +kernel, by decide +kernel⟩⟩
theorem gw_X0_isReady (own : String) (idx : Nat) : gcV own idx RX0 yX0_isReady cX0_isReady 1 (some .boolean) 0 := ⟨wall (by decide +kernel) rfl, wall (by decide +kernel) rfl, wall (by decide +kernel) rfl, wall (by decide +kernel) rfl, ⟨by decide +kernel, by decide +kernel, by decide +kernel⟩⟩
theorem gw_X0_isReadIn (own : String) (idx : Nat) : gcV own idx RX0 yX0_isReadIn cX0_isReadIn 2 (some .boolean) 1 := ⟨wall (by decide +kernel) rfl, wall (by decide +kernel) rfl, wall (by decide +kernel) rfl, wall (by decide +kernel) rfl, ⟨by decide +kernel, by decide +kernel, by decide +kernel⟩⟩
theorem gw_X0_state (own : String) (idx : Nat) : gcV own idx RX0 yX0_state cX0_state 1 (some .int) 0 := ⟨wall (by decide +kernel) rfl, wall (by decide +kernel) rfl, wall (by decide +kernel) rfl, wall (by decide +kernel) rfl, ⟨by decide +kernel, by decide +kernel, by decide +kernel⟩⟩
theorem gw_X0_putToPress (own : String) (idx : Nat) : gcV own idx RX0 yX0_putToPress cX0_putToPress 2 none 1 := ⟨wall (by decide +kernel) rfl, wall (by decide +kernel) rfl, wall (by decide +kernel) rfl, wall (by decide +kernel) rfl, ⟨by decide +kernel, by decide +kernel, by decide +kernel⟩⟩
theorem gw_X0_countReferences (own : String) (idx : Nat) : gcV own idx RX0 yX0_countReferences cX0_countReferences 4 (some .int) 1 := ⟨wall (by decide +kernel) rfl, wall (by decide +kernel) rfl, wall (by decide +kernel) rfl, wall (by decide +kernel) rfl, ⟨by decide +kernel, by decide +kernel, by decide +kernel⟩⟩
theorem gw_X1_addToWrite (own : String) (idx : Nat) : gcV own idx RX1 yX1_addToWrite cX1_addToWrite 2 none 1 := ⟨wall (by decide +kernel) rfl, wall (by decide +kernel) rfl, wall (by decide +kernel) rfl, wall (by decide +kernel) rfl, ⟨by decide +kernel, by decide +kernel, by decide +kernel⟩⟩
theorem gw_X1_removeFirst (own : String) (idx : Nat) : gcV own idx RX1 yX1_removeFirst cX1_removeFirst 1 none 0 := ⟨wall (by decide +kernel) rfl, wall (by decide +kernel) rfl, wall (by decide +kernel) rfl, wall (by decide +kernel) rfl, ⟨by decide +kernel, by decide +kernel, by decide +kernel⟩⟩
theorem gw_X1_monthsFor (own : String) (idx : Nat) : gcV own idx RX1 yX1_monthsFor cX1_monthsFor 2 (some .int) 1 := ⟨wall (by decide +kernel) rfl, wall (by decide +kernel) rfl, wall (by decide +kernel) rfl, wall (by decide +kernel) rfl, ⟨by decide +kernel, by decide +kernel, by decide +kernel⟩⟩
theorem gw_X3_add (own : String) (idx : Nat) : gcV own idx RX3 yX3_add cX3_add 2 none 1 := ⟨wall (by decide +kernel) rfl, wall (by decide +kernel) rfl, wall (by decide +kernel) rfl, wall (by decide +kernel) rfl, ⟨by decide +kernel, by decide +kernel, by decide +kernel⟩⟩
theorem gw_X3_clear (own : String) (idx : Nat) : gcV own idx RX3 yX3_clear cX3_clear 1 none 0 := ⟨wall (by decide +kernel) rfl, wall (by decide +kernel) rfl, wall (by decide +kernel) rfl, wall (by decide +kernel) rfl, ⟨by decide +kernel, by decide +kernel, by decide +kernel⟩⟩
theorem gw_X3_take (own : String) (idx : Nat) : gcV own idx RX3 yX3_take cX3_take 2 none 1 := ⟨wall (by decide +kernel) rfl, wall (by decide +kernel) rfl, wall (by decide +kernel) rfl, wall (by decide +kernel) rfl, ⟨by decide +kernel, by decide +kernel, by decide +kernel⟩⟩
theorem gw_X3_hasLetter (own : String) (idx : Nat) : gcV own idx RX3 yX3_hasLetter cX3_hasLetter 1 (some .boolean) 0 := ⟨wall (by decide +kernel) rfl, wall (by decide +kernel) rfl, wall (by decide +kernel) rfl, wall (by decide +kernel) rfl, ⟨by decide +kernel, by decide +kernel, by decide +kernel⟩⟩
theorem gw_X3_firstLetter (own : String) (idx : Nat) : gcV own idx RX3 yX3_firstLetter cX3_firstLetter 1 (some .char) 0 := ⟨wall (by decide +kernel) rfl, wall (by decide +kernel) rfl, wall (by decide +kernel) rfl, wall (by decide +kernel) rfl, ⟨by decide +kernel, by decide +kernel, by decide +kernel⟩⟩
theorem gw_X3_compareBy (own : String) (idx : Nat) : gcV own idx RX3 yX3_compareBy cX3_compareBy 8 (some .int) 2 := ⟨wall (by decide +kernel) rfl, wall (by decide +kernel) rfl, wall (by decide +kernel) rfl, wall (by decide +kernel) rfl, ⟨by decide +kernel, by decide +kernel, by decide +kernel⟩⟩
theorem gw_X6_sign (own : String) (idx : Nat) : gcV own idx RX6 yX6_sign cX6_sign 2 (some .int) 1 := ⟨wall (by decide +kernel) rfl, wall (by decide +kernel) rfl, wall (by decide +kernel) rfl, wall (by decide +kernel) rfl, ⟨by decide +kernel, by decide +kernel, by decide +kernel⟩⟩
theorem gw_X6_erase (own : String) (idx : Nat) : gcV own idx RX6 yX6_erase cX6_erase 2 (some .int) 0 := ⟨wall (by decide +kernel) rfl, wall (by decide +kernel) rfl, wall (by decide +kernel) rfl, wall (by decide +kernel) rfl, ⟨by decide +kernel, by decide +kernel, by decide +kernel⟩⟩
theorem gw_X6_rule (own : String) (idx : Nat) : gcV own idx RX6 yX6_rule cX6_rule 3 (some .boolean) 1 := ⟨wall (by decide +kernel) rfl, wall (by decide +kernel) rfl, wall (by decide +kernel) rfl, wall (by decide +kernel) rfl, ⟨by decide +kernel, by decide +kernel, by decide +kernel⟩⟩
theorem gw_X6_article (own : String) (idx : Nat) : gcV own idx RX6 yX6_article cX6_article 4 (some .int) 2 := ⟨wall (by decide +kernel) rfl, wall (by decide +kernel) rfl, wall (by decide +kernel) rfl, wall (by decide +kernel) rfl, ⟨by decide +kernel, by decide +kernel, by decide +kernel⟩⟩
theorem gw_X6_under (own : String) (idx : Nat) : gcV own idx RX6 yX6_under cX6_under 4 (some .int) 2 := ⟨wall (by decide +kernel) rfl, wall (by decide +kernel) rfl, wall (by decide +kernel) rfl, wall (by decide +kernel) rfl, ⟨by decide +kernel, by decide +kernel, by decide +kernel⟩⟩
theorem gw_X6_refer (own : String) (idx : Nat) : gcV own idx RX6 yX6_refer cX6_refer 3 (some .int) 1 := ⟨wall (by decide +kernel) rfl, wall (by decide +kernel) rfl, wall (by decide +kernel) rfl, wall (by decide +kernel) rfl, ⟨by decide +kernel, by decide +kernel, by decide +kernel⟩⟩
theorem gw_X6_use (own : String) (idx : Nat) : gcV own idx RX6 yX6_use cX6_use 5 (some .boolean) 2 := ⟨wall (by decide +kernel) rfl, wall (by decide +kernel) rfl, wall (by decide +kernel) rfl, wall (by decide +kernel) rfl, ⟨by decide +kernel, by decide +kernel, by decide +kernel⟩⟩
theorem gw_X6_change (own : String) (idx : Nat) : gcV own idx RX6 yX6_change cX6_change 4 (some .int) 2 := ⟨wall (by decide +kernel) rfl, wall (by decide +kernel) rfl, wall (by decide +kernel) rfl, wall (by decide +kernel) rfl, ⟨by decide +kernel, by decide +kernel, by decide +kernel⟩⟩
theorem gw_X6_forbid (own : String) (idx : Nat) : gcV own idx RX6 yX6_forbid cX6_forbid 4 (some .boolean) 2 := ⟨wall (by decide +kernel) rfl, wall (by decide +kernel) rfl, wall (by decide +kernel) rfl, wall (by decide +kernel) rfl, ⟨by decide +kernel, by decide +kernel, by decide +kernel⟩⟩
theorem gw_X6_volume (own : String) (idx : Nat) : gcV own idx RX6 yX6_volume cX6_volume 3 (some .int) 2 := ⟨wall (by decide +kernel) rfl, wall (by decide +kernel) rfl, wall (by decide +kernel) rfl, wall (by decide +kernel) rfl, ⟨by decide +kernel, by decide +kernel, by decide +kernel⟩⟩
theorem gw_X6_contributor (own : String) (idx : Nat) : gcV own idx RX6 yX6_contributor cX6_contributor 2 (some .int) 1 := ⟨wall (by decide +kernel) rfl, wall (by decide +kernel) rfl, wall (by decide +kernel) rfl, wall (by decide +kernel) rfl, ⟨by decide +kernel, by decide +kernel, by decide +kernel⟩⟩
theorem gw_X6_quarrel (own : String) (idx : Nat) : gcV own idx RX6 yX6_quarrel cX6_quarrel 4 (some .boolean) 2 := ⟨wall (by decide +kernel) rfl, wall (by decide +kernel) rfl, wall (by decide +kernel) rfl, wall (by decide +kernel) rfl, ⟨by decide +kernel, by decide +kernel, by decide +kernel⟩⟩
theorem gw_X6_give (own : String) (idx : Nat) : gcV own idx RX6 yX6_give cX6_give 5 (some .int) 2 := ⟨wall (by decide +kernel) rfl, wall (by decide +kernel) rfl, wall (by decide +kernel) rfl, wall (by decide +kernel) rfl, ⟨by decide +kernel, by decide +kernel, by decide +kernel⟩⟩
theorem gw_X6_die (own : String) (idx : Nat) : gcV own idx RX6 yX6_die cX6_die 6 (some .int) 1 := ⟨wall (by decide +kernel) rfl, wall (by decide +kernel) rfl, wall (by decide +kernel) rfl, wall (by decide +kernel) rfl, ⟨by decide +kernel, by decide +kernel, by decide +kernel⟩⟩
theorem gw_X6_pass (own : String) (idx : Nat) : gcV own idx RX6 yX6_pass cX6_pass 5 (some .int) 1 := ⟨wall (by decide +kernel) rfl, wall (by decide +kernel) rfl, wall (by decide +kernel) rfl, wall (by decide +kernel) rfl, ⟨by decide +kernel, by decide +kernel, by decide +kernel⟩⟩
theorem gw_X6_print (own : String) (idx : Nat) : gcV own idx RX6 yX6_print cX6_print 3 (some .int) 1 := ⟨wall (by decide +kernel) rfl, wall (by decide +kernel) rfl, wall (by decide +kernel) rfl, wall (by decide +kernel) rfl, ⟨by decide +kernel, by decide +kernel, by decide +kernel⟩⟩
theorem gw_X6_supplement (own : String) (idx : Nat) : gcV own idx RX6 yX6_supplement cX6_supplement 2 (some .int) 0 := ⟨wall (by decide +kernel) rfl, wall (by decide +kernel) rfl, wall (by decide +kernel) rfl, wall (by decide +kernel) rfl, ⟨by decide +kernel, by decide +kernel, by decide +kernel⟩⟩
theorem gw_X6_month (own : String) (idx : Nat) : gcV own idx RX6 yX6_month cX6_month 1 (some .int) 0 := ⟨wall (by decide +kernel) rfl, wall (by decide +kernel) rfl, wall (by decide +kernel) rfl, wall (by decide +kernel) rfl, ⟨by decide +kernel, by decide +kernel, by decide +kernel⟩⟩
theorem gw_X6_at (own : String) (idx : Nat) : gcV own idx RX6 yX6_at cX6_at 3 (some .int) 1 := ⟨wall (by decide +kernel) rfl, wall (by decide +kernel) rfl, wall (by decide +kernel) rfl, wall (by decide +kernel) rfl, ⟨by decide +kernel, by decide +kernel, by decide +kernel⟩⟩
theorem gw_X6_about (own : String) (idx : Nat) : gcV own idx RX6 yX6_about cX6_about 4 (some .int) 2 := ⟨wall (by decide +kernel) rfl, wall (by decide +kernel) rfl, wall (by decide +kernel) rfl, wall (by decide +kernel) rfl, ⟨by decide +kernel, by decide +kernel, by decide +kernel⟩⟩
theorem gw_X6_struck (own : String) (idx : Nat) : gcV own idx RX6 yX6_struck cX6_struck 3 (some .int) 0 := ⟨wall (by decide +kernel) rfl, wall (by decide +kernel) rfl, wall (by decide +kernel) rfl, wall (by decide +kernel) rfl, ⟨by decide +kernel, by decide +kernel, by decide +kernel⟩⟩
theorem gw_X6_errata (own : String) (idx : Nat) : gcV own idx RX6 yX6_errata cX6_errata 2 (some .int) 1 := ⟨wall (by decide +kernel) rfl, wall (by decide +kernel) rfl, wall (by decide +kernel) rfl, wall (by decide +kernel) rfl, ⟨by decide +kernel, by decide +kernel, by decide +kernel⟩⟩
theorem gw_X6_open (own : String) (idx : Nat) : gcV own idx RX6 yX6_open cX6_open 4 (some .int) 1 := ⟨wall (by decide +kernel) rfl, wall (by decide +kernel) rfl, wall (by decide +kernel) rfl, wall (by decide +kernel) rfl, ⟨by decide +kernel, by decide +kernel, by decide +kernel⟩⟩
theorem gw_X6_contradictions (own : String) (idx : Nat) : gcV own idx RX6 yX6_contradictions cX6_contradictions 4 (some .int) 1 := ⟨wall (by decide +kernel) rfl, wall (by decide +kernel) rfl, wall (by decide +kernel) rfl, wall (by decide +kernel) rfl, ⟨by decide +kernel, by decide +kernel, by decide +kernel⟩⟩
theorem gw_X6_readAnew (own : String) (idx : Nat) : gcV own idx RX6 yX6_readAnew cX6_readAnew 2 (some .int) 1 := ⟨wall (by decide +kernel) rfl, wall (by decide +kernel) rfl, wall (by decide +kernel) rfl, wall (by decide +kernel) rfl, ⟨by decide +kernel, by decide +kernel, by decide +kernel⟩⟩
theorem gw_X6_synopsis (own : String) (idx : Nat) : gcV own idx RX6 yX6_synopsis cX6_synopsis 4 (some .int) 1 := ⟨wall (by decide +kernel) rfl, wall (by decide +kernel) rfl, wall (by decide +kernel) rfl, wall (by decide +kernel) rfl, ⟨by decide +kernel, by decide +kernel, by decide +kernel⟩⟩
theorem gw_X6_requireArticle (own : String) (idx : Nat) : gcV own idx RX6 yX6_requireArticle cX6_requireArticle 2 none 1 := ⟨wall (by decide +kernel) rfl, wall (by decide +kernel) rfl, wall (by decide +kernel) rfl, wall (by decide +kernel) rfl, ⟨by decide +kernel, by decide +kernel, by decide +kernel⟩⟩
theorem gw_X6_requireVolume (own : String) (idx : Nat) : gcV own idx RX6 yX6_requireVolume cX6_requireVolume 2 none 1 := ⟨wall (by decide +kernel) rfl, wall (by decide +kernel) rfl, wall (by decide +kernel) rfl, wall (by decide +kernel) rfl, ⟨by decide +kernel, by decide +kernel, by decide +kernel⟩⟩
theorem gw_X6_requireContributor (own : String) (idx : Nat) : gcV own idx RX6 yX6_requireContributor cX6_requireContributor 2 none 1 := ⟨wall (by decide +kernel) rfl, wall (by decide +kernel) rfl, wall (by decide +kernel) rfl, wall (by decide +kernel) rfl, ⟨by decide +kernel, by decide +kernel, by decide +kernel⟩⟩
theorem gw_X6_requireSubject : gcS yX6_requireSubject cX6_requireSubject 1 none 1 := ⟨wall (by decide +kernel) rfl, wall (by decide +kernel) rfl, wall (by decide +kernel) rfl, ⟨by decide +kernel, by decide +kernel, by decide +kernel⟩⟩
theorem gw_X6_requireFact : gcS yX6_requireFact cX6_requireFact 1 none 1 := ⟨wall (by decide +kernel) rfl, wall (by decide +kernel) rfl, wall (by decide +kernel) rfl, ⟨by decide +kernel, by decide +kernel, by decide +kernel⟩⟩
theorem gw_X6_isLetter : gcS yX6_isLetter cX6_isLetter 1 (some .boolean) 1 := ⟨wall (by decide +kernel) rfl, wall (by decide +kernel) rfl, wall (by decide +kernel) rfl, ⟨by decide +kernel, by decide +kernel, by decide +kernel⟩⟩
theorem gw_X6_isGap : gcS yX6_isGap cX6_isGap 1 (some .boolean) 1 := ⟨wall (by decide +kernel) rfl, wall (by decide +kernel) rfl, wall (by decide +kernel) rfl, ⟨by decide +kernel, by decide +kernel, by decide +kernel⟩⟩
theorem gw_X6_areAlike (own : String) (idx : Nat) : gcV own idx RX6 yX6_areAlike cX6_areAlike 3 (some .boolean) 2 := ⟨wall (by decide +kernel) rfl, wall (by decide +kernel) rfl, wall (by decide +kernel) rfl, wall (by decide +kernel) rfl, ⟨by decide +kernel, by decide +kernel, by decide +kernel⟩⟩
theorem gw_X6_comesAhead (own : String) (idx : Nat) : gcV own idx RX6 yX6_comesAhead cX6_comesAhead 4 (some .boolean) 2 := ⟨wall (by decide +kernel) rfl, wall (by decide +kernel) rfl, wall (by decide +kernel) rfl, wall (by decide +kernel) rfl, ⟨by decide +kernel, by decide +kernel, by decide +kernel⟩⟩
theorem gw_X6_placeOf (own : String) (idx : Nat) : gcV own idx RX6 yX6_placeOf cX6_placeOf 4 (some .int) 1 := ⟨wall (by decide +kernel) rfl, wall (by decide +kernel) rfl, wall (by decide +kernel) rfl, wall (by decide +kernel) rfl, ⟨by decide +kernel, by decide +kernel, by decide +kernel⟩⟩
theorem gw_X6_volumeOf (own : String) (idx : Nat) : gcV own idx RX6 yX6_volumeOf cX6_volumeOf 3 (some .int) 1 := ⟨wall (by decide +kernel) rfl, wall (by decide +kernel) rfl, wall (by decide +kernel) rfl, wall (by decide +kernel) rfl, ⟨by decide +kernel, by decide +kernel, by decide +kernel⟩⟩
theorem gw_X6_isOfPrintedVolume (own : String) (idx : Nat) : gcV own idx RX6 yX6_isOfPrintedVolume cX6_isOfPrintedVolume 3 (some .boolean) 1 := ⟨wall (by decide +kernel) rfl, wall (by decide +kernel) rfl, wall (by decide +kernel) rfl, wall (by decide +kernel) rfl, ⟨by decide +kernel, by decide +kernel, by decide +kernel⟩⟩
theorem gw_X6_columnsOf (own : String) (idx : Nat) : gcV own idx RX6 yX6_columnsOf cX6_columnsOf 11 (some .int) 1 := ⟨wall (by decide +kernel) rfl, wall (by decide +kernel) rfl, wall (by decide +kernel) rfl, wall (by decide +kernel) rfl, ⟨by decide +kernel, by decide +kernel, by decide +kernel⟩⟩
theorem gw_X6_worthsIn (own : String) (idx : Nat) : gcV own idx RX6 yX6_worthsIn cX6_worthsIn 4 (some .int) 1 := ⟨wall (by decide +kernel) rfl, wall (by decide +kernel) rfl, wall (by decide +kernel) rfl, wall (by decide +kernel) rfl, ⟨by decide +kernel, by decide +kernel, by decide +kernel⟩⟩
theorem gw_X6_isToBeGiven (own : String) (idx : Nat) : gcV own idx RX6 yX6_isToBeGiven cX6_isToBeGiven 2 (some .boolean) 1 := ⟨wall (by decide +kernel) rfl, wall (by decide +kernel) rfl, wall (by decide +kernel) rfl, wall (by decide +kernel) rfl, ⟨by decide +kernel, by decide +kernel, by decide +kernel⟩⟩
theorem gw_X6_isAmongEnemies (own : String) (idx : Nat) : gcV own idx RX6 yX6_isAmongEnemies cX6_isAmongEnemies 5 (some .boolean) 2 := ⟨wall (by decide +kernel) rfl, wall (by decide +kernel) rfl, wall (by decide +kernel) rfl, wall (by decide +kernel) rfl, ⟨by decide +kernel, by decide +kernel, by decide +kernel⟩⟩
theorem gw_X6_refersTo (own : String) (idx : Nat) : gcV own idx RX6 yX6_refersTo cX6_refersTo 4 (some .boolean) 2 := ⟨wall (by decide +kernel) rfl, wall (by decide +kernel) rfl, wall (by decide +kernel) rfl, wall (by decide +kernel) rfl, ⟨by decide +kernel, by decide +kernel, by decide +kernel⟩⟩
theorem gw_X6_beginFirst (own : String) (idx : Nat) : gcV own idx RX6 yX6_beginFirst cX6_beginFirst 3 none 1 := ⟨wall (by decide +kernel) rfl, wall (by decide +kernel) rfl, wall (by decide +kernel) rfl, wall (by decide +kernel) rfl, ⟨by decide +kernel, by decide +kernel, by decide +kernel⟩⟩
theorem gw_X6_endsAnArticle (own : String) (idx : Nat) : gcV own idx RX6 yX6_endsAnArticle cX6_endsAnArticle 3 (some .boolean) 1 := ⟨wall (by decide +kernel) rfl, wall (by decide +kernel) rfl, wall (by decide +kernel) rfl, wall (by decide +kernel) rfl, ⟨by decide +kernel, by decide +kernel, by decide +kernel⟩⟩
theorem gw_X6_putToPressFrom (own : String) (idx : Nat) : gcV own idx RX6 yX6_putToPressFrom cX6_putToPressFrom 5 (some .int) 1 := ⟨wall (by decide +kernel) rfl, wall (by decide +kernel) rfl, wall (by decide +kernel) rfl, wall (by decide +kernel) rfl, ⟨by decide +kernel, by decide +kernel, by decide +kernel⟩⟩
theorem gw_X6_lookAtReferences (own : String) (idx : Nat) : gcV own idx RX6 yX6_lookAtReferences cX6_lookAtReferences 4 none 0 := ⟨wall (by decide +kernel) rfl, wall (by decide +kernel) rfl, wall (by decide +kernel) rfl, wall (by decide +kernel) rfl, ⟨by decide +kernel, by decide +kernel, by decide +kernel⟩⟩
theorem gw_X6_fateOf (own : String) (idx : Nat) : gcV own idx RX6 yX6_fateOf cX6_fateOf 2 (some (.object "CircleOfLeaves$Fate")) 1 := ⟨wall (by decide +kernel) rfl, wall (by decide +kernel) rfl, wall (by decide +kernel) rfl, wall (by decide +kernel) rfl, ⟨by decide +kernel, by decide +kernel, by decide +kernel⟩⟩
theorem gw_X6_isThere (own : String) (idx : Nat) : gcV own idx RX6 yX6_isThere cX6_isThere 3 (some .boolean) 1 := ⟨wall (by decide +kernel) rfl, wall (by decide +kernel) rfl, wall (by decide +kernel) rfl, wall (by decide +kernel) rfl, ⟨by decide +kernel, by decide +kernel, by decide +kernel⟩⟩
theorem gw_X6_isBroken (own : String) (idx : Nat) : gcV own idx RX6 yX6_isBroken cX6_isBroken 2 (some .boolean) 1 := ⟨wall (by decide +kernel) rfl, wall (by decide +kernel) rfl, wall (by decide +kernel) rfl, wall (by decide +kernel) rfl, ⟨by decide +kernel, by decide +kernel, by decide +kernel⟩⟩
theorem gw_X6_countBroken (own : String) (idx : Nat) : gcV own idx RX6 yX6_countBroken cX6_countBroken 4 (some .int) 1 := ⟨wall (by decide +kernel) rfl, wall (by decide +kernel) rfl, wall (by decide +kernel) rfl, wall (by decide +kernel) rfl, ⟨by decide +kernel, by decide +kernel, by decide +kernel⟩⟩
theorem gw_X6_tellFacts (own : String) (idx : Nat) : gcV own idx RX6 yX6_tellFacts cX6_tellFacts 5 (some .int) 0 := ⟨wall (by decide +kernel) rfl, wall (by decide +kernel) rfl, wall (by decide +kernel) rfl, wall (by decide +kernel) rfl, ⟨by decide +kernel, by decide +kernel, by decide +kernel⟩⟩
theorem gw_X6_addErratum (own : String) (idx : Nat) : gcV own idx RX6 yX6_addErratum cX6_addErratum 2 none 1 := ⟨wall (by decide +kernel) rfl, wall (by decide +kernel) rfl, wall (by decide +kernel) rfl, wall (by decide +kernel) rfl, ⟨by decide +kernel, by decide +kernel, by decide +kernel⟩⟩
theorem gw_X6_tellPromises (own : String) (idx : Nat) : gcV own idx RX6 yX6_tellPromises cX6_tellPromises 5 (some .int) 0 := ⟨wall (by decide +kernel) rfl, wall (by decide +kernel) rfl, wall (by decide +kernel) rfl, wall (by decide +kernel) rfl, ⟨by decide +kernel, by decide +kernel, by decide +kernel⟩⟩
theorem gw_X6_isContradicted (own : String) (idx : Nat) : gcV own idx RX6 yX6_isContradicted cX6_isContradicted 7 (some .boolean) 2 := ⟨wall (by decide +kernel) rfl, wall (by decide +kernel) rfl, wall (by decide +kernel) rfl, wall (by decide +kernel) rfl, ⟨by decide +kernel, by decide +kernel, by decide +kernel⟩⟩
theorem gw_X6_isWithin (own : String) (idx : Nat) : gcV own idx RX6 yX6_isWithin cX6_isWithin 5 (some .boolean) 2 := ⟨wall (by decide +kernel) rfl, wall (by decide +kernel) rfl, wall (by decide +kernel) rfl, wall (by decide +kernel) rfl, ⟨by decide +kernel, by decide +kernel, by decide +kernel⟩⟩
theorem gw_X7_thrown (own : String) (idx : Nat) : gcV own idx RX7 yX7_thrown cX7_thrown 1 (some .int) 0 := ⟨wall (by decide +kernel) rfl, wall (by decide +kernel) rfl, wall (by decide +kernel) rfl, wall (by decide +kernel) rfl, ⟨by decide +kernel, by decide +kernel, by decide +kernel⟩⟩
theorem gw_X7_goes (own : String) (idx : Nat) : gcV own idx RX7 yX7_goes cX7_goes 2 (some .boolean) 1 := ⟨wall (by decide +kernel) rfl, wall (by decide +kernel) rfl, wall (by decide +kernel) rfl, wall (by decide +kernel) rfl, ⟨by decide +kernel, by decide +kernel, by decide +kernel⟩⟩
theorem gw_X7_isIn : gcS yX7_isIn cX7_isIn 3 (some .boolean) 3 := ⟨wall (by decide +kernel) rfl, wall (by decide +kernel) rfl, wall (by decide +kernel) rfl, ⟨by decide +kernel, by decide +kernel, by decide +kernel⟩⟩
theorem gw_X7_isArticle (own : String) (idx : Nat) : gcV own idx RX7 yX7_isArticle cX7_isArticle 2 (some .boolean) 1 := ⟨wall (by decide +kernel) rfl, wall (by decide +kernel) rfl, wall (by decide +kernel) rfl, wall (by decide +kernel) rfl, ⟨by decide +kernel, by decide +kernel, by decide +kernel⟩⟩
theorem gw_X7_isContributor (own : String) (idx : Nat) : gcV own idx RX7 yX7_isContributor cX7_isContributor 2 (some .boolean) 1 := ⟨wall (by decide +kernel) rfl, wall (by decide +kernel) rfl, wall (by decide +kernel) rfl, wall (by decide +kernel) rfl, ⟨by decide +kernel, by decide +kernel, by decide +kernel⟩⟩
theorem gw_X7_isSubject : gcS yX7_isSubject cX7_isSubject 1 (some .boolean) 1 := ⟨wall (by decide +kernel) rfl, wall (by decide +kernel) rfl, wall (by decide +kernel) rfl, ⟨by decide +kernel, by decide +kernel, by decide +kernel⟩⟩
theorem gw_X7_isFact : gcS yX7_isFact cX7_isFact 1 (some .boolean) 1 := ⟨wall (by decide +kernel) rfl, wall (by decide +kernel) rfl, wall (by decide +kernel) rfl, ⟨by decide +kernel, by decide +kernel, by decide +kernel⟩⟩
theorem gw_X7_next (own : String) (idx : Nat) : gcV own idx RX7 yX7_next cX7_next 4 (some .int) 2 := ⟨wall (by decide +kernel) rfl, wall (by decide +kernel) rfl, wall (by decide +kernel) rfl, wall (by decide +kernel) rfl, ⟨by decide +kernel, by decide +kernel, by decide +kernel⟩⟩
theorem gw_X7_order (own : String) (idx : Nat) : gcV own idx RX7 yX7_order cX7_order 6 (some .int) 2 := ⟨wall (by decide +kernel) rfl, wall (by decide +kernel) rfl, wall (by decide +kernel) rfl, wall (by decide +kernel) rfl, ⟨by decide +kernel, by decide +kernel, by decide +kernel⟩⟩
theorem gw_X7_firstLetter (own : String) (idx : Nat) : gcV own idx RX7 yX7_firstLetter cX7_firstLetter 3 (some .int) 1 := ⟨wall (by decide +kernel) rfl, wall (by decide +kernel) rfl, wall (by decide +kernel) rfl, wall (by decide +kernel) rfl, ⟨by decide +kernel, by decide +kernel, by decide +kernel⟩⟩
theorem gw_X7_volumeOf (own : String) (idx : Nat) : gcV own idx RX7 yX7_volumeOf cX7_volumeOf 3 (some .int) 1 := ⟨wall (by decide +kernel) rfl, wall (by decide +kernel) rfl, wall (by decide +kernel) rfl, wall (by decide +kernel) rfl, ⟨by decide +kernel, by decide +kernel, by decide +kernel⟩⟩
theorem gw_X7_takes (own : String) (idx : Nat) : gcV own idx RX7 yX7_takes cX7_takes 3 none 1 := ⟨wall (by decide +kernel) rfl, wall (by decide +kernel) rfl, wall (by decide +kernel) rfl, wall (by decide +kernel) rfl, ⟨by decide +kernel, by decide +kernel, by decide +kernel⟩⟩
theorem gw_X7_sign (own : String) (idx : Nat) : gcV own idx RX7 yX7_sign cX7_sign 3 (some .int) 1 := ⟨wall (by decide +kernel) rfl, wall (by decide +kernel) rfl, wall (by decide +kernel) rfl, wall (by decide +kernel) rfl, ⟨by decide +kernel, by decide +kernel, by decide +kernel⟩⟩
theorem gw_X7_erase (own : String) (idx : Nat) : gcV own idx RX7 yX7_erase cX7_erase 2 (some .int) 0 := ⟨wall (by decide +kernel) rfl, wall (by decide +kernel) rfl, wall (by decide +kernel) rfl, wall (by decide +kernel) rfl, ⟨by decide +kernel, by decide +kernel, by decide +kernel⟩⟩
theorem gw_X7_rule (own : String) (idx : Nat) : gcV own idx RX7 yX7_rule cX7_rule 3 (some .boolean) 1 := ⟨wall (by decide +kernel) rfl, wall (by decide +kernel) rfl, wall (by decide +kernel) rfl, wall (by decide +kernel) rfl, ⟨by decide +kernel, by decide +kernel, by decide +kernel⟩⟩
theorem gw_X7_article (own : String) (idx : Nat) : gcV own idx RX7 yX7_article cX7_article 4 (some .int) 2 := ⟨wall (by decide +kernel) rfl, wall (by decide +kernel) rfl, wall (by decide +kernel) rfl, wall (by decide +kernel) rfl, ⟨by decide +kernel, by decide +kernel, by decide +kernel⟩⟩
theorem gw_X7_under (own : String) (idx : Nat) : gcV own idx RX7 yX7_under cX7_under 4 (some .int) 2 := ⟨wall (by decide +kernel) rfl, wall (by decide +kernel) rfl, wall (by decide +kernel) rfl, wall (by decide +kernel) rfl, ⟨by decide +kernel, by decide +kernel, by decide +kernel⟩⟩
theorem gw_X7_reference : gcS yX7_reference cX7_reference 2 (some .int) 2 := ⟨wall (by decide +kernel) rfl, wall (by decide +kernel) rfl, wall (by decide +kernel) rfl, ⟨by decide +kernel, by decide +kernel, by decide +kernel⟩⟩
theorem gw_X7_refer (own : String) (idx : Nat) : gcV own idx RX7 yX7_refer cX7_refer 3 (some .int) 1 := ⟨wall (by decide +kernel) rfl, wall (by decide +kernel) rfl, wall (by decide +kernel) rfl, wall (by decide +kernel) rfl, ⟨by decide +kernel, by decide +kernel, by decide +kernel⟩⟩
theorem gw_X7_use (own : String) (idx : Nat) : gcV own idx RX7 yX7_use cX7_use 5 (some .boolean) 2 := ⟨wall (by decide +kernel) rfl, wall (by decide +kernel) rfl, wall (by decide +kernel) rfl, wall (by decide +kernel) rfl, ⟨by decide +kernel, by decide +kernel, by decide +kernel⟩⟩
theorem gw_X7_change (own : String) (idx : Nat) : gcV own idx RX7 yX7_change cX7_change 4 (some .int) 2 := ⟨wall (by decide +kernel) rfl, wall (by decide +kernel) rfl, wall (by decide +kernel) rfl, wall (by decide +kernel) rfl, ⟨by decide +kernel, by decide +kernel, by decide +kernel⟩⟩
theorem gw_X7_forbid (own : String) (idx : Nat) : gcV own idx RX7 yX7_forbid cX7_forbid 4 (some .boolean) 2 := ⟨wall (by decide +kernel) rfl, wall (by decide +kernel) rfl, wall (by decide +kernel) rfl, wall (by decide +kernel) rfl, ⟨by decide +kernel, by decide +kernel, by decide +kernel⟩⟩
theorem gw_X7_volume (own : String) (idx : Nat) : gcV own idx RX7 yX7_volume cX7_volume 4 (some .int) 2 := ⟨wall (by decide +kernel) rfl, wall (by decide +kernel) rfl, wall (by decide +kernel) rfl, wall (by decide +kernel) rfl, ⟨by decide +kernel, by decide +kernel, by decide +kernel⟩⟩
theorem gw_X7_isAhead (own : String) (idx : Nat) : gcV own idx RX7 yX7_isAhead cX7_isAhead 4 (some .boolean) 2 := ⟨wall (by decide +kernel) rfl, wall (by decide +kernel) rfl, wall (by decide +kernel) rfl, wall (by decide +kernel) rfl, ⟨by decide +kernel, by decide +kernel, by decide +kernel⟩⟩
theorem gw_X7_columns (own : String) (idx : Nat) : gcV own idx RX7 yX7_columns cX7_columns 9 (some .int) 1 := ⟨wall (by decide +kernel) rfl, wall (by decide +kernel) rfl, wall (by decide +kernel) rfl, wall (by decide +kernel) rfl, ⟨by decide +kernel, by decide +kernel, by decide +kernel⟩⟩
theorem gw_X7_contributor (own : String) (idx : Nat) : gcV own idx RX7 yX7_contributor cX7_contributor 2 (some .int) 1 := ⟨wall (by decide +kernel) rfl, wall (by decide +kernel) rfl, wall (by decide +kernel) rfl, wall (by decide +kernel) rfl, ⟨by decide +kernel, by decide +kernel, by decide +kernel⟩⟩
theorem gw_X7_quarrel (own : String) (idx : Nat) : gcV own idx RX7 yX7_quarrel cX7_quarrel 5 (some .boolean) 2 := ⟨wall (by decide +kernel) rfl, wall (by decide +kernel) rfl, wall (by decide +kernel) rfl, wall (by decide +kernel) rfl, ⟨by decide +kernel, by decide +kernel, by decide +kernel⟩⟩
theorem gw_X7_refersTo (own : String) (idx : Nat) : gcV own idx RX7 yX7_refersTo cX7_refersTo 5 (some .boolean) 2 := ⟨wall (by decide +kernel) rfl, wall (by decide +kernel) rfl, wall (by decide +kernel) rfl, wall (by decide +kernel) rfl, ⟨by decide +kernel, by decide +kernel, by decide +kernel⟩⟩
theorem gw_X7_isBarred (own : String) (idx : Nat) : gcV own idx RX7 yX7_isBarred cX7_isBarred 6 (some .boolean) 2 := ⟨wall (by decide +kernel) rfl, wall (by decide +kernel) rfl, wall (by decide +kernel) rfl, wall (by decide +kernel) rfl, ⟨by decide +kernel, by decide +kernel, by decide +kernel⟩⟩
theorem gw_X7_canBeGiven (own : String) (idx : Nat) : gcV own idx RX7 yX7_canBeGiven cX7_canBeGiven 4 (some .boolean) 2 := ⟨wall (by decide +kernel) rfl, wall (by decide +kernel) rfl, wall (by decide +kernel) rfl, wall (by decide +kernel) rfl, ⟨by decide +kernel, by decide +kernel, by decide +kernel⟩⟩
theorem gw_X7_toWrite (own : String) (idx : Nat) : gcV own idx RX7 yX7_toWrite cX7_toWrite 4 (some .int) 1 := ⟨wall (by decide +kernel) rfl, wall (by decide +kernel) rfl, wall (by decide +kernel) rfl, wall (by decide +kernel) rfl, ⟨by decide +kernel, by decide +kernel, by decide +kernel⟩⟩
theorem gw_X7_first (own : String) (idx : Nat) : gcV own idx RX7 yX7_first cX7_first 5 (some .int) 1 := ⟨wall (by decide +kernel) rfl, wall (by decide +kernel) rfl, wall (by decide +kernel) rfl, wall (by decide +kernel) rfl, ⟨by decide +kernel, by decide +kernel, by decide +kernel⟩⟩
theorem gw_X7_begins (own : String) (idx : Nat) : gcV own idx RX7 yX7_begins cX7_begins 4 none 2 := ⟨wall (by decide +kernel) rfl, wall (by decide +kernel) rfl, wall (by decide +kernel) rfl, wall (by decide +kernel) rfl, ⟨by decide +kernel, by decide +kernel, by decide +kernel⟩⟩
theorem gw_X7_give (own : String) (idx : Nat) : gcV own idx RX7 yX7_give cX7_give 5 (some .int) 2 := ⟨wall (by decide +kernel) rfl, wall (by decide +kernel) rfl, wall (by decide +kernel) rfl, wall (by decide +kernel) rfl, ⟨by decide +kernel, by decide +kernel, by decide +kernel⟩⟩
theorem gw_X7_die (own : String) (idx : Nat) : gcV own idx RX7 yX7_die cX7_die 5 (some .int) 1 := ⟨wall (by decide +kernel) rfl, wall (by decide +kernel) rfl, wall (by decide +kernel) rfl, wall (by decide +kernel) rfl, ⟨by decide +kernel, by decide +kernel, by decide +kernel⟩⟩
theorem gw_X7_pass (own : String) (idx : Nat) : gcV own idx RX7 yX7_pass cX7_pass 7 (some .int) 1 := ⟨wall (by decide +kernel) rfl, wall (by decide +kernel) rfl, wall (by decide +kernel) rfl, wall (by decide +kernel) rfl, ⟨by decide +kernel, by decide +kernel, by decide +kernel⟩⟩
theorem gw_X7_isPrinted (own : String) (idx : Nat) : gcV own idx RX7 yX7_isPrinted cX7_isPrinted 4 (some .boolean) 1 := ⟨wall (by decide +kernel) rfl, wall (by decide +kernel) rfl, wall (by decide +kernel) rfl, wall (by decide +kernel) rfl, ⟨by decide +kernel, by decide +kernel, by decide +kernel⟩⟩
theorem gw_X7_isPromise (own : String) (idx : Nat) : gcV own idx RX7 yX7_isPromise cX7_isPromise 3 (some .boolean) 1 := ⟨wall (by decide +kernel) rfl, wall (by decide +kernel) rfl, wall (by decide +kernel) rfl, wall (by decide +kernel) rfl, ⟨by decide +kernel, by decide +kernel, by decide +kernel⟩⟩
theorem gw_X7_prints (own : String) (idx : Nat) : gcV own idx RX7 yX7_prints cX7_prints 8 (some .int) 2 := ⟨wall (by decide +kernel) rfl, wall (by decide +kernel) rfl, wall (by decide +kernel) rfl, wall (by decide +kernel) rfl, ⟨by decide +kernel, by decide +kernel, by decide +kernel⟩⟩
theorem gw_X7_print (own : String) (idx : Nat) : gcV own idx RX7 yX7_print cX7_print 2 (some .int) 1 := ⟨wall (by decide +kernel) rfl, wall (by decide +kernel) rfl, wall (by decide +kernel) rfl, wall (by decide +kernel) rfl, ⟨by decide +kernel, by decide +kernel, by decide +kernel⟩⟩
theorem gw_X7_isOpen (own : String) (idx : Nat) : gcV own idx RX7 yX7_isOpen cX7_isOpen 4 (some .boolean) 2 := ⟨wall (by decide +kernel) rfl, wall (by decide +kernel) rfl, wall (by decide +kernel) rfl, wall (by decide +kernel) rfl, ⟨by decide +kernel, by decide +kernel, by decide +kernel⟩⟩
theorem gw_X7_supplement (own : String) (idx : Nat) : gcV own idx RX7 yX7_supplement cX7_supplement 5 (some .int) 0 := ⟨wall (by decide +kernel) rfl, wall (by decide +kernel) rfl, wall (by decide +kernel) rfl, wall (by decide +kernel) rfl, ⟨by decide +kernel, by decide +kernel, by decide +kernel⟩⟩
theorem gw_X7_month (own : String) (idx : Nat) : gcV own idx RX7 yX7_month cX7_month 1 (some .int) 0 := ⟨wall (by decide +kernel) rfl, wall (by decide +kernel) rfl, wall (by decide +kernel) rfl, wall (by decide +kernel) rfl, ⟨by decide +kernel, by decide +kernel, by decide +kernel⟩⟩
theorem gw_X7_at (own : String) (idx : Nat) : gcV own idx RX7 yX7_at cX7_at 5 (some .int) 1 := ⟨wall (by decide +kernel) rfl, wall (by decide +kernel) rfl, wall (by decide +kernel) rfl, wall (by decide +kernel) rfl, ⟨by decide +kernel, by decide +kernel, by decide +kernel⟩⟩
theorem gw_X7_about (own : String) (idx : Nat) : gcV own idx RX7 yX7_about cX7_about 3 (some .int) 2 := ⟨wall (by decide +kernel) rfl, wall (by decide +kernel) rfl, wall (by decide +kernel) rfl, wall (by decide +kernel) rfl, ⟨by decide +kernel, by decide +kernel, by decide +kernel⟩⟩
theorem gw_X7_struck (own : String) (idx : Nat) : gcV own idx RX7 yX7_struck cX7_struck 1 (some .int) 0 := ⟨wall (by decide +kernel) rfl, wall (by decide +kernel) rfl, wall (by decide +kernel) rfl, wall (by decide +kernel) rfl, ⟨by decide +kernel, by decide +kernel, by decide +kernel⟩⟩
theorem gw_X7_errata (own : String) (idx : Nat) : gcV own idx RX7 yX7_errata cX7_errata 2 (some .int) 1 := ⟨wall (by decide +kernel) rfl, wall (by decide +kernel) rfl, wall (by decide +kernel) rfl, wall (by decide +kernel) rfl, ⟨by decide +kernel, by decide +kernel, by decide +kernel⟩⟩
theorem gw_X7_opens (own : String) (idx : Nat) : gcV own idx RX7 yX7_opens cX7_opens 5 (some .int) 1 := ⟨wall (by decide +kernel) rfl, wall (by decide +kernel) rfl, wall (by decide +kernel) rfl, wall (by decide +kernel) rfl, ⟨by decide +kernel, by decide +kernel, by decide +kernel⟩⟩
theorem gw_X7_open (own : String) (idx : Nat) : gcV own idx RX7 yX7_open cX7_open 2 (some .int) 1 := ⟨wall (by decide +kernel) rfl, wall (by decide +kernel) rfl, wall (by decide +kernel) rfl, wall (by decide +kernel) rfl, ⟨by decide +kernel, by decide +kernel, by decide +kernel⟩⟩
theorem gw_X7_contradicts (own : String) (idx : Nat) : gcV own idx RX7 yX7_contradicts cX7_contradicts 9 (some .int) 1 := ⟨wall (by decide +kernel) rfl, wall (by decide +kernel) rfl, wall (by decide +kernel) rfl, wall (by decide +kernel) rfl, ⟨by decide +kernel, by decide +kernel, by decide +kernel⟩⟩
theorem gw_X7_contradictions (own : String) (idx : Nat) : gcV own idx RX7 yX7_contradictions cX7_contradictions 2 (some .int) 1 := ⟨wall (by decide +kernel) rfl, wall (by decide +kernel) rfl, wall (by decide +kernel) rfl, wall (by decide +kernel) rfl, ⟨by decide +kernel, by decide +kernel, by decide +kernel⟩⟩
theorem gw_X7_readAnew (own : String) (idx : Nat) : gcV own idx RX7 yX7_readAnew cX7_readAnew 2 (some .int) 1 := ⟨wall (by decide +kernel) rfl, wall (by decide +kernel) rfl, wall (by decide +kernel) rfl, wall (by decide +kernel) rfl, ⟨by decide +kernel, by decide +kernel, by decide +kernel⟩⟩
theorem gw_X7_synopsis (own : String) (idx : Nat) : gcV own idx RX7 yX7_synopsis cX7_synopsis 5 (some .int) 1 := ⟨wall (by decide +kernel) rfl, wall (by decide +kernel) rfl, wall (by decide +kernel) rfl, wall (by decide +kernel) rfl, ⟨by decide +kernel, by decide +kernel, by decide +kernel⟩⟩
theorem cl_RX6_44 {x0 : Int32} {v : Int32} {σ1 : gSt} (hC : gCx p s m args meth c cc nL RX6 ret E) (d : decode cc pc = .ok (.invokestatic 44, 3)) (hq : pc + 3 = q) (hM : gM l yX6_isLetter cX6_isLetter 1 (some .boolean) rm_X6_isLetter 1 E w σ [.int x0] (v, σ1))  (hR : rm_X6_isLetter.frames + 1 ≤ R.frames ∧ 8 + (1 + 11) + rm_X6_isLetter.locals ≤ R.locals) (hsum : (st.map fun v => v.category).sum ≤ 8) (hcap : cells ≤ R.cells ∧ slots ≤ R.slots) (kk : G p l e R s m args below meth c nL cells slots Q E w σ1 q lv (.int v :: st)) : G p l e R s m args below meth c nL cells slots Q E w σ pc lv (.int x0 :: st) :=
  G_callS (As := [.int x0]) hC d hq hM gw_X6_isLetter (wall (by decide +kernel) rfl) rfl ⟨rfl, rfl⟩ hR hsum hcap rfl kk
theorem cl_RX6_48 {x0 : Int32} {v : Int32} {σ1 : gSt} (hC : gCx p s m args meth c cc nL RX6 ret E) (d : decode cc pc = .ok (.invokestatic 48, 3)) (hq : pc + 3 = q) (hM : gM l yX6_isGap cX6_isGap 1 (some .boolean) rm_X6_isGap 1 E w σ [.int x0] (v, σ1))  (hR : rm_X6_isGap.frames + 1 ≤ R.frames ∧ 8 + (1 + 11) + rm_X6_isGap.locals ≤ R.locals) (hsum : (st.map fun v => v.category).sum ≤ 8) (hcap : cells ≤ R.cells ∧ slots ≤ R.slots) (kk : G p l e R s m args below meth c nL cells slots Q E w σ1 q lv (.int v :: st)) : G p l e R s m args below meth c nL cells slots Q E w σ pc lv (.int x0 :: st) :=
  G_callS (As := [.int x0]) hC d hq hM gw_X6_isGap (wall (by decide +kernel) rfl) rfl ⟨rfl, rfl⟩ hR hsum hcap rfl kk
theorem cl_RX6_67 {i0 : Nat} {x1 : Int32} {v : Int32} {σ1 : gSt} (hC : gCx p s m args meth c cc nL RX6 ret E) (d : decode cc pc = .ok (.invokevirtual 67, 3)) (hq : pc + 3 = q) (hM : gM l yX3_add cX3_add 2 none rm_X3_add 0 E w σ [.ref (eB E + oHw i0), .int x1] (v, σ1)) (h0 : i0 < 121) (hR : rm_X3_add.frames + 1 ≤ R.frames ∧ 8 + (2 + 11) + rm_X3_add.locals ≤ R.locals) (hsum : (st.map fun v => v.category).sum ≤ 8) (hcap : cells ≤ R.cells ∧ slots ≤ R.slots) (kk : G p l e R s m args below meth c nL cells slots Q E w σ1 q lv st) : G p l e R s m args below meth c nL cells slots Q E w σ pc lv (.int x1 :: .ref (eB E + oHw i0) :: st) :=
  G_callVN (host := RX6) (As := [.int x1]) hC d hq hM (dec_hw i0 h0).2 (cell_Hw h0) rfl rfl (gw_X3_add _ _) (by decide +kernel) rfl ⟨rfl, rfl⟩ hR hsum hcap rfl kk
theorem cl_RX6_71 {i0 : Nat} {v : Int32} {σ1 : gSt} (hC : gCx p s m args meth c cc nL RX6 ret E) (d : decode cc pc = .ok (.invokevirtual 71, 3)) (hq : pc + 3 = q) (hM : gM l yX3_clear cX3_clear 1 none rm_X3_clear 0 E w σ [.ref (eB E + oHw i0)] (v, σ1)) (h0 : i0 < 121) (hR : rm_X3_clear.frames + 1 ≤ R.frames ∧ 8 + (1 + 11) + rm_X3_clear.locals ≤ R.locals) (hsum : (st.map fun v => v.category).sum ≤ 8) (hcap : cells ≤ R.cells ∧ slots ≤ R.slots) (kk : G p l e R s m args below meth c nL cells slots Q E w σ1 q lv st) : G p l e R s m args below meth c nL cells slots Q E w σ pc lv (.ref (eB E + oHw i0) :: st) :=
  G_callVN (host := RX6) (As := []) hC d hq hM (dec_hw i0 h0).2 (cell_Hw h0) rfl rfl (gw_X3_clear _ _) (by decide +kernel) rfl ⟨rfl, rfl⟩ hR hsum hcap rfl kk
theorem cl_RX6_83 {x0 : Int32} {k0 MC MS : Nat} {z r : Nat × Int32 × gSt} (hC : gCx p s m args meth c cc nL RX6 ret E) (d : decode cc pc = .ok (.invokestatic 83, 3)) (hq : pc + 3 = q) (hX : ∀ x ∈ c.exceptionTable.toList, False) (hM : gMX l yX6_requireSubject cX6_requireSubject 1 none rm_X6_requireSubject 0 E w σ [.int x0] z)  (hR : rm_X6_requireSubject.frames + 1 ≤ R.frames ∧ 8 + (1 + 11) + rm_X6_requireSubject.locals ≤ R.locals) (hsum : (st.map fun v => v.category).sum ≤ 8) (hcap : cells + rm_X6_requireSubject.cells ≤ R.cells ∧ slots + rm_X6_requireSubject.slots ≤ R.slots) (hM2 : cells + rm_X6_requireSubject.cells ≤ MC ∧ slots + rm_X6_requireSubject.slots ≤ MS) (hz : ¬ z.1 = 0 → z = r) (kk : z.1 = 0 → G p l e R s m args below meth c nL (cells + rm_X6_requireSubject.cells) (slots + rm_X6_requireSubject.slots) (vx_MQ below (gQX E w k0 r) (gXC E w r) args s MC MS (fun q => eB E ≤ q)) E w z.2.2 q lv st) : G p l e R s m args below meth c nL cells slots (vx_MQ below (gQX E w k0 r) (gXC E w r) args s MC MS (fun q => eB E ≤ q)) E w σ pc lv (.int x0 :: st) :=
  G_callSX (As := [.int x0]) hC d hq hX hM gw_X6_requireSubject (wall (by decide +kernel) rfl) rfl hR hsum hcap hM2 rfl hz kk
theorem cl_RX6_92 {i0 : Nat} {v : Int32} {σ1 : gSt} (hC : gCx p s m args meth c cc nL RX6 ret E) (d : decode cc pc = .ok (.invokevirtual 92, 3)) (hq : pc + 3 = q) (hM : gM l yX3_hasLetter cX3_hasLetter 1 (some .boolean) rm_X3_hasLetter 1 E w σ [.ref (eB E + oHw i0)] (v, σ1)) (h0 : i0 < 121) (hR : rm_X3_hasLetter.frames + 1 ≤ R.frames ∧ 8 + (1 + 11) + rm_X3_hasLetter.locals ≤ R.locals) (hsum : (st.map fun v => v.category).sum ≤ 8) (hcap : cells ≤ R.cells ∧ slots ≤ R.slots) (kk : G p l e R s m args below meth c nL cells slots Q E w σ1 q lv (.int v :: st)) : G p l e R s m args below meth c nL cells slots Q E w σ pc lv (.ref (eB E + oHw i0) :: st) :=
  G_callVN (host := RX6) (As := []) hC d hq hM (dec_hw i0 h0).2 (cell_Hw h0) rfl rfl (gw_X3_hasLetter _ _) (by decide +kernel) rfl ⟨rfl, rfl⟩ hR hsum hcap rfl kk
theorem cl_RX6_107 {i0 : Nat} {i1 : Nat} {v : Int32} {σ1 : gSt} (hC : gCx p s m args meth c cc nL RX6 ret E) (d : decode cc pc = .ok (.invokevirtual 107, 3)) (hq : pc + 3 = q) (hM : gM l yX3_take cX3_take 2 none rm_X3_take 0 E w σ [.ref (eB E + oHw i0), .ref (eB E + oHw i1)] (v, σ1)) (h0 : i0 < 121) (hR : rm_X3_take.frames + 1 ≤ R.frames ∧ 8 + (2 + 11) + rm_X3_take.locals ≤ R.locals) (hsum : (st.map fun v => v.category).sum ≤ 8) (hcap : cells ≤ R.cells ∧ slots ≤ R.slots) (kk : G p l e R s m args below meth c nL cells slots Q E w σ1 q lv st) : G p l e R s m args below meth c nL cells slots Q E w σ pc lv (.ref (eB E + oHw i1) :: .ref (eB E + oHw i0) :: st) :=
  G_callVN (host := RX6) (As := [.ref (eB E + oHw i1)]) hC d hq hM (dec_hw i0 h0).2 (cell_Hw h0) rfl rfl (gw_X3_take _ _) (by decide +kernel) rfl ⟨rfl, rfl⟩ hR hsum hcap rfl kk
theorem cl_RX6_113 {x1 : Int32} {k0 MC MS : Nat} {z r : Nat × Int32 × gSt} (hC : gCx p s m args meth c cc nL RX6 ret E) (d : decode cc pc = .ok (.invokevirtual 113, 3)) (hq : pc + 3 = q) (hX : ∀ x ∈ c.exceptionTable.toList, False) (hM : gMX l yX6_requireArticle cX6_requireArticle 2 none rm_X6_requireArticle 0 E w σ [.ref (eB E + 0), .int x1] z)  (hR : rm_X6_requireArticle.frames + 1 ≤ R.frames ∧ 8 + (2 + 11) + rm_X6_requireArticle.locals ≤ R.locals) (hsum : (st.map fun v => v.category).sum ≤ 8) (hcap : cells + rm_X6_requireArticle.cells ≤ R.cells ∧ slots + rm_X6_requireArticle.slots ≤ R.slots) (hM2 : cells + rm_X6_requireArticle.cells ≤ MC ∧ slots + rm_X6_requireArticle.slots ≤ MS) (hz : ¬ z.1 = 0 → z = r) (kk : z.1 = 0 → G p l e R s m args below meth c nL (cells + rm_X6_requireArticle.cells) (slots + rm_X6_requireArticle.slots) (vx_MQ below (gQX E w k0 r) (gXC E w r) args s MC MS (fun q => eB E ≤ q)) E w z.2.2 q lv st) : G p l e R s m args below meth c nL cells slots (vx_MQ below (gQX E w k0 r) (gXC E w r) args s MC MS (fun q => eB E ≤ q)) E w σ pc lv (.int x1 :: .ref (eB E + 0) :: st) :=
  G_callVX (As := [.int x1]) hC d hq hX hM (by decide) cell_M rfl rfl (gw_X6_requireArticle _ _) (wall (by decide +kernel) rfl) rfl hR hsum hcap hM2 rfl hz kk
theorem cl_RX6_131 {x0 : Int32} {k0 MC MS : Nat} {z r : Nat × Int32 × gSt} (hC : gCx p s m args meth c cc nL RX6 ret E) (d : decode cc pc = .ok (.invokestatic 131, 3)) (hq : pc + 3 = q) (hX : ∀ x ∈ c.exceptionTable.toList, False) (hM : gMX l yX6_requireFact cX6_requireFact 1 none rm_X6_requireFact 0 E w σ [.int x0] z)  (hR : rm_X6_requireFact.frames + 1 ≤ R.frames ∧ 8 + (1 + 11) + rm_X6_requireFact.locals ≤ R.locals) (hsum : (st.map fun v => v.category).sum ≤ 8) (hcap : cells + rm_X6_requireFact.cells ≤ R.cells ∧ slots + rm_X6_requireFact.slots ≤ R.slots) (hM2 : cells + rm_X6_requireFact.cells ≤ MC ∧ slots + rm_X6_requireFact.slots ≤ MS) (hz : ¬ z.1 = 0 → z = r) (kk : z.1 = 0 → G p l e R s m args below meth c nL (cells + rm_X6_requireFact.cells) (slots + rm_X6_requireFact.slots) (vx_MQ below (gQX E w k0 r) (gXC E w r) args s MC MS (fun q => eB E ≤ q)) E w z.2.2 q lv st) : G p l e R s m args below meth c nL cells slots (vx_MQ below (gQX E w k0 r) (gXC E w r) args s MC MS (fun q => eB E ≤ q)) E w σ pc lv (.int x0 :: st) :=
  G_callSX (As := [.int x0]) hC d hq hX hM gw_X6_requireFact (wall (by decide +kernel) rfl) rfl hR hsum hcap hM2 rfl hz kk
theorem cl_RX6_134 {i0 : Nat} {v : Int32} {σ1 : gSt} (hC : gCx p s m args meth c cc nL RX6 ret E) (d : decode cc pc = .ok (.invokevirtual 134, 3)) (hq : pc + 3 = q) (hM : gM l yX0_isBlind cX0_isBlind 1 (some .boolean) rm_X0_isBlind 1 E w σ [.ref (eB E + oArt i0)] (v, σ1)) (h0 : i0 < 24) (hR : rm_X0_isBlind.frames + 1 ≤ R.frames ∧ 8 + (1 + 11) + rm_X0_isBlind.locals ≤ R.locals) (hsum : (st.map fun v => v.category).sum ≤ 8) (hcap : cells ≤ R.cells ∧ slots ≤ R.slots) (kk : G p l e R s m args below meth c nL cells slots Q E w σ1 q lv (.int v :: st)) : G p l e R s m args below meth c nL cells slots Q E w σ pc lv (.ref (eB E + oArt i0) :: st) :=
  G_callVN (host := RX6) (As := []) hC d hq hM (dec_art i0 h0).2 (cell_Art h0) rfl rfl (gw_X0_isBlind _ _) (by decide +kernel) rfl ⟨rfl, rfl⟩ hR hsum hcap rfl kk
theorem cl_RX6_174 {x1 : Int32} {k0 MC MS : Nat} {z r : Nat × Int32 × gSt} (hC : gCx p s m args meth c cc nL RX6 ret E) (d : decode cc pc = .ok (.invokevirtual 174, 3)) (hq : pc + 3 = q) (hX : ∀ x ∈ c.exceptionTable.toList, False) (hM : gMX l yX6_requireContributor cX6_requireContributor 2 none rm_X6_requireContributor 0 E w σ [.ref (eB E + 0), .int x1] z)  (hR : rm_X6_requireContributor.frames + 1 ≤ R.frames ∧ 8 + (2 + 11) + rm_X6_requireContributor.locals ≤ R.locals) (hsum : (st.map fun v => v.category).sum ≤ 8) (hcap : cells + rm_X6_requireContributor.cells ≤ R.cells ∧ slots + rm_X6_requireContributor.slots ≤ R.slots) (hM2 : cells + rm_X6_requireContributor.cells ≤ MC ∧ slots + rm_X6_requireContributor.slots ≤ MS) (hz : ¬ z.1 = 0 → z = r) (kk : z.1 = 0 → G p l e R s m args below meth c nL (cells + rm_X6_requireContributor.cells) (slots + rm_X6_requireContributor.slots) (vx_MQ below (gQX E w k0 r) (gXC E w r) args s MC MS (fun q => eB E ≤ q)) E w z.2.2 q lv st) : G p l e R s m args below meth c nL cells slots (vx_MQ below (gQX E w k0 r) (gXC E w r) args s MC MS (fun q => eB E ≤ q)) E w σ pc lv (.int x1 :: .ref (eB E + 0) :: st) :=
  G_callVX (As := [.int x1]) hC d hq hX hM (by decide) cell_M rfl rfl (gw_X6_requireContributor _ _) (wall (by decide +kernel) rfl) rfl hR hsum hcap hM2 rfl hz kk
theorem cl_RX6_182 {i1 : Nat} {v : Int32} {σ1 : gSt} (hC : gCx p s m args meth c cc nL RX6 ret E) (d : decode cc pc = .ok (.invokevirtual 182, 3)) (hq : pc + 3 = q) (hM : gM l yX6_isToBeGiven cX6_isToBeGiven 2 (some .boolean) rm_X6_isToBeGiven 1 E w σ [.ref (eB E + 0), .ref (eB E + oArt i1)] (v, σ1))  (hR : rm_X6_isToBeGiven.frames + 1 ≤ R.frames ∧ 8 + (2 + 11) + rm_X6_isToBeGiven.locals ≤ R.locals) (hsum : (st.map fun v => v.category).sum ≤ 8) (hcap : cells ≤ R.cells ∧ slots ≤ R.slots) (kk : G p l e R s m args below meth c nL cells slots Q E w σ1 q lv (.int v :: st)) : G p l e R s m args below meth c nL cells slots Q E w σ pc lv (.ref (eB E + oArt i1) :: .ref (eB E + 0) :: st) :=
  G_callV (As := [.ref (eB E + oArt i1)]) hC d hq hM (by decide) cell_M rfl rfl (gw_X6_isToBeGiven _ _) (wall (by decide +kernel) rfl) rfl ⟨rfl, rfl⟩ hR hsum hcap rfl kk
theorem cl_RX6_189 {i1 : Nat} {i2 : Nat} {v : Int32} {σ1 : gSt} (hC : gCx p s m args meth c cc nL RX6 ret E) (d : decode cc pc = .ok (.invokevirtual 189, 3)) (hq : pc + 3 = q) (hM : gM l yX6_isAmongEnemies cX6_isAmongEnemies 5 (some .boolean) rm_X6_isAmongEnemies 1 E w σ [.ref (eB E + 0), .ref (eB E + oArt i1), .ref (eB E + oCon i2)] (v, σ1))  (hR : rm_X6_isAmongEnemies.frames + 1 ≤ R.frames ∧ 8 + (5 + 11) + rm_X6_isAmongEnemies.locals ≤ R.locals) (hsum : (st.map fun v => v.category).sum ≤ 8) (hcap : cells ≤ R.cells ∧ slots ≤ R.slots) (kk : G p l e R s m args below meth c nL cells slots Q E w σ1 q lv (.int v :: st)) : G p l e R s m args below meth c nL cells slots Q E w σ pc lv (.ref (eB E + oCon i2) :: .ref (eB E + oArt i1) :: .ref (eB E + 0) :: st) :=
  G_callV (As := [.ref (eB E + oArt i1), .ref (eB E + oCon i2)]) hC d hq hM (by decide) cell_M rfl rfl (gw_X6_isAmongEnemies _ _) (wall (by decide +kernel) rfl) rfl ⟨rfl, rfl⟩ hR hsum hcap rfl kk
theorem cl_RX6_198 {i0 : Nat} {x1 : Int32} {v : Int32} {σ1 : gSt} (hC : gCx p s m args meth c cc nL RX6 ret E) (d : decode cc pc = .ok (.invokevirtual 198, 3)) (hq : pc + 3 = q) (hM : gM l yX1_addToWrite cX1_addToWrite 2 none rm_X1_addToWrite 0 E w σ [.ref (eB E + oCon i0), .int x1] (v, σ1)) (h0 : i0 < 6) (hR : rm_X1_addToWrite.frames + 1 ≤ R.frames ∧ 8 + (2 + 11) + rm_X1_addToWrite.locals ≤ R.locals) (hsum : (st.map fun v => v.category).sum ≤ 8) (hcap : cells ≤ R.cells ∧ slots ≤ R.slots) (kk : G p l e R s m args below meth c nL cells slots Q E w σ1 q lv st) : G p l e R s m args below meth c nL cells slots Q E w σ pc lv (.int x1 :: .ref (eB E + oCon i0) :: st) :=
  G_callVN (host := RX6) (As := [.int x1]) hC d hq hM (dec_con i0 h0).2 (cell_Con h0) rfl rfl (gw_X1_addToWrite _ _) (by decide +kernel) rfl ⟨rfl, rfl⟩ hR hsum hcap rfl kk
theorem cl_RX6_204 {i1 : Nat} {v : Int32} {σ1 : gSt} (hC : gCx p s m args meth c cc nL RX6 ret E) (d : decode cc pc = .ok (.invokevirtual 204, 3)) (hq : pc + 3 = q) (hM : gM l yX6_beginFirst cX6_beginFirst 3 none rm_X6_beginFirst 0 E w σ [.ref (eB E + 0), .ref (eB E + oCon i1)] (v, σ1))  (hR : rm_X6_beginFirst.frames + 1 ≤ R.frames ∧ 8 + (3 + 11) + rm_X6_beginFirst.locals ≤ R.locals) (hsum : (st.map fun v => v.category).sum ≤ 8) (hcap : cells ≤ R.cells ∧ slots ≤ R.slots) (kk : G p l e R s m args below meth c nL cells slots Q E w σ1 q lv st) : G p l e R s m args below meth c nL cells slots Q E w σ pc lv (.ref (eB E + oCon i1) :: .ref (eB E + 0) :: st) :=
  G_callV (As := [.ref (eB E + oCon i1)]) hC d hq hM (by decide) cell_M rfl rfl (gw_X6_beginFirst _ _) (wall (by decide +kernel) rfl) rfl ⟨rfl, rfl⟩ hR hsum hcap rfl kk
theorem cl_RX6_221 {i1 : Nat} {v : Int32} {σ1 : gSt} (hC : gCx p s m args meth c cc nL RX6 ret E) (d : decode cc pc = .ok (.invokevirtual 221, 3)) (hq : pc + 3 = q) (hM : gM l yX6_endsAnArticle cX6_endsAnArticle 3 (some .boolean) rm_X6_endsAnArticle 1 E w σ [.ref (eB E + 0), .ref (eB E + oCon i1)] (v, σ1))  (hR : rm_X6_endsAnArticle.frames + 1 ≤ R.frames ∧ 8 + (3 + 11) + rm_X6_endsAnArticle.locals ≤ R.locals) (hsum : (st.map fun v => v.category).sum ≤ 8) (hcap : cells ≤ R.cells ∧ slots ≤ R.slots) (kk : G p l e R s m args below meth c nL cells slots Q E w σ1 q lv (.int v :: st)) : G p l e R s m args below meth c nL cells slots Q E w σ pc lv (.ref (eB E + oCon i1) :: .ref (eB E + 0) :: st) :=
  G_callV (As := [.ref (eB E + oCon i1)]) hC d hq hM (by decide) cell_M rfl rfl (gw_X6_endsAnArticle _ _) (wall (by decide +kernel) rfl) rfl ⟨rfl, rfl⟩ hR hsum hcap rfl kk
theorem cl_RX6_225 {x1 : Int32} {k0 MC MS : Nat} {z r : Nat × Int32 × gSt} (hC : gCx p s m args meth c cc nL RX6 ret E) (d : decode cc pc = .ok (.invokevirtual 225, 3)) (hq : pc + 3 = q) (hX : ∀ x ∈ c.exceptionTable.toList, False) (hM : gMX l yX6_requireVolume cX6_requireVolume 2 none rm_X6_requireVolume 0 E w σ [.ref (eB E + 0), .int x1] z)  (hR : rm_X6_requireVolume.frames + 1 ≤ R.frames ∧ 8 + (2 + 11) + rm_X6_requireVolume.locals ≤ R.locals) (hsum : (st.map fun v => v.category).sum ≤ 8) (hcap : cells + rm_X6_requireVolume.cells ≤ R.cells ∧ slots + rm_X6_requireVolume.slots ≤ R.slots) (hM2 : cells + rm_X6_requireVolume.cells ≤ MC ∧ slots + rm_X6_requireVolume.slots ≤ MS) (hz : ¬ z.1 = 0 → z = r) (kk : z.1 = 0 → G p l e R s m args below meth c nL (cells + rm_X6_requireVolume.cells) (slots + rm_X6_requireVolume.slots) (vx_MQ below (gQX E w k0 r) (gXC E w r) args s MC MS (fun q => eB E ≤ q)) E w z.2.2 q lv st) : G p l e R s m args below meth c nL cells slots (vx_MQ below (gQX E w k0 r) (gXC E w r) args s MC MS (fun q => eB E ≤ q)) E w σ pc lv (.int x1 :: .ref (eB E + 0) :: st) :=
  G_callVX (As := [.int x1]) hC d hq hX hM (by decide) cell_M rfl rfl (gw_X6_requireVolume _ _) (wall (by decide +kernel) rfl) rfl hR hsum hcap hM2 rfl hz kk
theorem cl_RX6_230 {x1 : Int32} {v : Int32} {σ1 : gSt} (hC : gCx p s m args meth c cc nL RX6 ret E) (d : decode cc pc = .ok (.invokevirtual 230, 3)) (hq : pc + 3 = q) (hM : gM l yX6_putToPressFrom cX6_putToPressFrom 5 (some .int) rm_X6_putToPressFrom 1 E w σ [.ref (eB E + 0), .int x1] (v, σ1))  (hR : rm_X6_putToPressFrom.frames + 1 ≤ R.frames ∧ 8 + (5 + 11) + rm_X6_putToPressFrom.locals ≤ R.locals) (hsum : (st.map fun v => v.category).sum ≤ 8) (hcap : cells ≤ R.cells ∧ slots ≤ R.slots) (kk : G p l e R s m args below meth c nL cells slots Q E w σ1 q lv (.int v :: st)) : G p l e R s m args below meth c nL cells slots Q E w σ pc lv (.int x1 :: .ref (eB E + 0) :: st) :=
  G_callV (As := [.int x1]) hC d hq hM (by decide) cell_M rfl rfl (gw_X6_putToPressFrom _ _) (wall (by decide +kernel) rfl) rfl ⟨rfl, rfl⟩ hR hsum hcap rfl kk
theorem cl_RX6_234  {v : Int32} {σ1 : gSt} (hC : gCx p s m args meth c cc nL RX6 ret E) (d : decode cc pc = .ok (.invokevirtual 234, 3)) (hq : pc + 3 = q) (hM : gM l yX6_lookAtReferences cX6_lookAtReferences 4 none rm_X6_lookAtReferences 0 E w σ [.ref (eB E + 0)] (v, σ1))  (hR : rm_X6_lookAtReferences.frames + 1 ≤ R.frames ∧ 8 + (4 + 11) + rm_X6_lookAtReferences.locals ≤ R.locals) (hsum : (st.map fun v => v.category).sum ≤ 8) (hcap : cells ≤ R.cells ∧ slots ≤ R.slots) (kk : G p l e R s m args below meth c nL cells slots Q E w σ1 q lv st) : G p l e R s m args below meth c nL cells slots Q E w σ pc lv (.ref (eB E + 0) :: st) :=
  G_callV (As := []) hC d hq hM (by decide) cell_M rfl rfl (gw_X6_lookAtReferences _ _) (wall (by decide +kernel) rfl) rfl ⟨rfl, rfl⟩ hR hsum hcap rfl kk
theorem cl_RX6_239  {v : Int32} {σ1 : gSt} (hC : gCx p s m args meth c cc nL RX6 ret E) (d : decode cc pc = .ok (.invokevirtual 239, 3)) (hq : pc + 3 = q) (hM : gM l yX6_tellFacts cX6_tellFacts 5 (some .int) rm_X6_tellFacts 1 E w σ [.ref (eB E + 0)] (v, σ1))  (hR : rm_X6_tellFacts.frames + 1 ≤ R.frames ∧ 8 + (5 + 11) + rm_X6_tellFacts.locals ≤ R.locals) (hsum : (st.map fun v => v.category).sum ≤ 8) (hcap : cells ≤ R.cells ∧ slots ≤ R.slots) (kk : G p l e R s m args below meth c nL cells slots Q E w σ1 q lv (.int v :: st)) : G p l e R s m args below meth c nL cells slots Q E w σ pc lv (.ref (eB E + 0) :: st) :=
  G_callV (As := []) hC d hq hM (by decide) cell_M rfl rfl (gw_X6_tellFacts _ _) (wall (by decide +kernel) rfl) rfl ⟨rfl, rfl⟩ hR hsum hcap rfl kk
theorem cl_RX6_243  {v : Int32} {σ1 : gSt} (hC : gCx p s m args meth c cc nL RX6 ret E) (d : decode cc pc = .ok (.invokevirtual 243, 3)) (hq : pc + 3 = q) (hM : gM l yX6_tellPromises cX6_tellPromises 5 (some .int) rm_X6_tellPromises 1 E w σ [.ref (eB E + 0)] (v, σ1))  (hR : rm_X6_tellPromises.frames + 1 ≤ R.frames ∧ 8 + (5 + 11) + rm_X6_tellPromises.locals ≤ R.locals) (hsum : (st.map fun v => v.category).sum ≤ 8) (hcap : cells ≤ R.cells ∧ slots ≤ R.slots) (kk : G p l e R s m args below meth c nL cells slots Q E w σ1 q lv (.int v :: st)) : G p l e R s m args below meth c nL cells slots Q E w σ pc lv (.ref (eB E + 0) :: st) :=
  G_callV (As := []) hC d hq hM (by decide) cell_M rfl rfl (gw_X6_tellPromises _ _) (wall (by decide +kernel) rfl) rfl ⟨rfl, rfl⟩ hR hsum hcap rfl kk
theorem cl_RX6_251 {x1 : Int32} {v : Int32} {σ1 : gSt} (hC : gCx p s m args meth c cc nL RX6 ret E) (d : decode cc pc = .ok (.invokevirtual 251, 3)) (hq : pc + 3 = q) (hM : gM l yX6_placeOf cX6_placeOf 4 (some .int) rm_X6_placeOf 1 E w σ [.ref (eB E + 0), .int x1] (v, σ1))  (hR : rm_X6_placeOf.frames + 1 ≤ R.frames ∧ 8 + (4 + 11) + rm_X6_placeOf.locals ≤ R.locals) (hsum : (st.map fun v => v.category).sum ≤ 8) (hcap : cells ≤ R.cells ∧ slots ≤ R.slots) (kk : G p l e R s m args below meth c nL cells slots Q E w σ1 q lv (.int v :: st)) : G p l e R s m args below meth c nL cells slots Q E w σ pc lv (.int x1 :: .ref (eB E + 0) :: st) :=
  G_callV (As := [.int x1]) hC d hq hM (by decide) cell_M rfl rfl (gw_X6_placeOf _ _) (wall (by decide +kernel) rfl) rfl ⟨rfl, rfl⟩ hR hsum hcap rfl kk
theorem cl_RX6_256 {i0 : Nat} {v : Int32} {σ1 : gSt} (hC : gCx p s m args meth c cc nL RX6 ret E) (d : decode cc pc = .ok (.invokevirtual 256, 3)) (hq : pc + 3 = q) (hM : gM l yX0_state cX0_state 1 (some .int) rm_X0_state 1 E w σ [.ref (eB E + oArt i0)] (v, σ1)) (h0 : i0 < 24) (hR : rm_X0_state.frames + 1 ≤ R.frames ∧ 8 + (1 + 11) + rm_X0_state.locals ≤ R.locals) (hsum : (st.map fun v => v.category).sum ≤ 8) (hcap : cells ≤ R.cells ∧ slots ≤ R.slots) (kk : G p l e R s m args below meth c nL cells slots Q E w σ1 q lv (.int v :: st)) : G p l e R s m args below meth c nL cells slots Q E w σ pc lv (.ref (eB E + oArt i0) :: st) :=
  G_callVN (host := RX6) (As := []) hC d hq hM (dec_art i0 h0).2 (cell_Art h0) rfl rfl (gw_X0_state _ _) (by decide +kernel) rfl ⟨rfl, rfl⟩ hR hsum hcap rfl kk
theorem cl_RX6_259 {i1 : Nat} {v : Int32} {σ1 : gSt} (hC : gCx p s m args meth c cc nL RX6 ret E) (d : decode cc pc = .ok (.invokevirtual 259, 3)) (hq : pc + 3 = q) (hM : gM l yX6_volumeOf cX6_volumeOf 3 (some .int) rm_X6_volumeOf 1 E w σ [.ref (eB E + 0), .ref (eB E + oHw i1)] (v, σ1))  (hR : rm_X6_volumeOf.frames + 1 ≤ R.frames ∧ 8 + (3 + 11) + rm_X6_volumeOf.locals ≤ R.locals) (hsum : (st.map fun v => v.category).sum ≤ 8) (hcap : cells ≤ R.cells ∧ slots ≤ R.slots) (kk : G p l e R s m args below meth c nL cells slots Q E w σ1 q lv (.int v :: st)) : G p l e R s m args below meth c nL cells slots Q E w σ pc lv (.ref (eB E + oHw i1) :: .ref (eB E + 0) :: st) :=
  G_callV (As := [.ref (eB E + oHw i1)]) hC d hq hM (by decide) cell_M rfl rfl (gw_X6_volumeOf _ _) (wall (by decide +kernel) rfl) rfl ⟨rfl, rfl⟩ hR hsum hcap rfl kk
theorem cl_RX6_263 {x1 : Int32} {v : Int32} {σ1 : gSt} (hC : gCx p s m args meth c cc nL RX6 ret E) (d : decode cc pc = .ok (.invokevirtual 263, 3)) (hq : pc + 3 = q) (hM : gM l yX6_columnsOf cX6_columnsOf 11 (some .int) rm_X6_columnsOf 1 E w σ [.ref (eB E + 0), .int x1] (v, σ1))  (hR : rm_X6_columnsOf.frames + 1 ≤ R.frames ∧ 8 + (11 + 11) + rm_X6_columnsOf.locals ≤ R.locals) (hsum : (st.map fun v => v.category).sum ≤ 8) (hcap : cells ≤ R.cells ∧ slots ≤ R.slots) (kk : G p l e R s m args below meth c nL cells slots Q E w σ1 q lv (.int v :: st)) : G p l e R s m args below meth c nL cells slots Q E w σ pc lv (.int x1 :: .ref (eB E + 0) :: st) :=
  G_callV (As := [.int x1]) hC d hq hM (by decide) cell_M rfl rfl (gw_X6_columnsOf _ _) (wall (by decide +kernel) rfl) rfl ⟨rfl, rfl⟩ hR hsum hcap rfl kk
theorem cl_RX6_272 {i0 : Nat} {x1 : Int32} {v : Int32} {σ1 : gSt} (hC : gCx p s m args meth c cc nL RX6 ret E) (d : decode cc pc = .ok (.invokevirtual 272, 3)) (hq : pc + 3 = q) (hM : gM l yX0_countReferences cX0_countReferences 4 (some .int) rm_X0_countReferences 1 E w σ [.ref (eB E + oArt i0), .ref (eF E (x1).toNatClampNeg)] (v, σ1)) (h0 : i0 < 24) (hR : rm_X0_countReferences.frames + 1 ≤ R.frames ∧ 8 + (4 + 11) + rm_X0_countReferences.locals ≤ R.locals) (hsum : (st.map fun v => v.category).sum ≤ 8) (hcap : cells ≤ R.cells ∧ slots ≤ R.slots) (kk : G p l e R s m args below meth c nL cells slots Q E w σ1 q lv (.int v :: st)) : G p l e R s m args below meth c nL cells slots Q E w σ pc lv (.ref (eF E (x1).toNatClampNeg) :: .ref (eB E + oArt i0) :: st) :=
  G_callVN (host := RX6) (As := [.ref (eF E (x1).toNatClampNeg)]) hC d hq hM (dec_art i0 h0).2 (cell_Art h0) rfl rfl (gw_X0_countReferences _ _) (by decide +kernel) rfl ⟨rfl, rfl⟩ hR hsum hcap rfl kk
theorem cl_RX6_279 {i0 : Nat} {x1 : Int32} {v : Int32} {σ1 : gSt} (hC : gCx p s m args meth c cc nL RX6 ret E) (d : decode cc pc = .ok (.invokevirtual 279, 3)) (hq : pc + 3 = q) (hM : gM l yX0_isReadIn cX0_isReadIn 2 (some .boolean) rm_X0_isReadIn 1 E w σ [.ref (eB E + oArt i0), .int x1] (v, σ1)) (h0 : i0 < 24) (hR : rm_X0_isReadIn.frames + 1 ≤ R.frames ∧ 8 + (2 + 11) + rm_X0_isReadIn.locals ≤ R.locals) (hsum : (st.map fun v => v.category).sum ≤ 8) (hcap : cells ≤ R.cells ∧ slots ≤ R.slots) (kk : G p l e R s m args below meth c nL cells slots Q E w σ1 q lv (.int v :: st)) : G p l e R s m args below meth c nL cells slots Q E w σ pc lv (.int x1 :: .ref (eB E + oArt i0) :: st) :=
  G_callVN (host := RX6) (As := [.int x1]) hC d hq hM (dec_art i0 h0).2 (cell_Art h0) rfl rfl (gw_X0_isReadIn _ _) (by decide +kernel) rfl ⟨rfl, rfl⟩ hR hsum hcap rfl kk
theorem cl_RX6_283 {i1 : Nat} {v : Int32} {σ1 : gSt} (hC : gCx p s m args meth c cc nL RX6 ret E) (d : decode cc pc = .ok (.invokevirtual 283, 3)) (hq : pc + 3 = q) (hM : gM l yX6_countBroken cX6_countBroken 4 (some .int) rm_X6_countBroken 1 E w σ [.ref (eB E + 0), .ref (eB E + oArt i1)] (v, σ1))  (hR : rm_X6_countBroken.frames + 1 ≤ R.frames ∧ 8 + (4 + 11) + rm_X6_countBroken.locals ≤ R.locals) (hsum : (st.map fun v => v.category).sum ≤ 8) (hcap : cells ≤ R.cells ∧ slots ≤ R.slots) (kk : G p l e R s m args below meth c nL cells slots Q E w σ1 q lv (.int v :: st)) : G p l e R s m args below meth c nL cells slots Q E w σ pc lv (.ref (eB E + oArt i1) :: .ref (eB E + 0) :: st) :=
  G_callV (As := [.ref (eB E + oArt i1)]) hC d hq hM (by decide) cell_M rfl rfl (gw_X6_countBroken _ _) (wall (by decide +kernel) rfl) rfl ⟨rfl, rfl⟩ hR hsum hcap rfl kk
theorem cl_RX6_287 {x1 : Int32} {x2 : Int32} {v : Int32} {σ1 : gSt} (hC : gCx p s m args meth c cc nL RX6 ret E) (d : decode cc pc = .ok (.invokevirtual 287, 3)) (hq : pc + 3 = q) (hM : gM l yX6_isContradicted cX6_isContradicted 7 (some .boolean) rm_X6_isContradicted 1 E w σ [.ref (eB E + 0), .int x1, .int x2] (v, σ1))  (hR : rm_X6_isContradicted.frames + 1 ≤ R.frames ∧ 8 + (7 + 11) + rm_X6_isContradicted.locals ≤ R.locals) (hsum : (st.map fun v => v.category).sum ≤ 8) (hcap : cells ≤ R.cells ∧ slots ≤ R.slots) (kk : G p l e R s m args below meth c nL cells slots Q E w σ1 q lv (.int v :: st)) : G p l e R s m args below meth c nL cells slots Q E w σ pc lv (.int x2 :: .int x1 :: .ref (eB E + 0) :: st) :=
  G_callV (As := [.int x1, .int x2]) hC d hq hM (by decide) cell_M rfl rfl (gw_X6_isContradicted _ _) (wall (by decide +kernel) rfl) rfl ⟨rfl, rfl⟩ hR hsum hcap rfl kk
theorem cl_RX6_291 {x1 : Int32} {v : Int32} {σ1 : gSt} (hC : gCx p s m args meth c cc nL RX6 ret E) (d : decode cc pc = .ok (.invokevirtual 291, 3)) (hq : pc + 3 = q) (hM : gM l yX6_open cX6_open 4 (some .int) rm_X6_open 1 E w σ [.ref (eB E + 0), .int x1] (v, σ1))  (hR : rm_X6_open.frames + 1 ≤ R.frames ∧ 8 + (4 + 11) + rm_X6_open.locals ≤ R.locals) (hsum : (st.map fun v => v.category).sum ≤ 8) (hcap : cells ≤ R.cells ∧ slots ≤ R.slots) (kk : G p l e R s m args below meth c nL cells slots Q E w σ1 q lv (.int v :: st)) : G p l e R s m args below meth c nL cells slots Q E w σ pc lv (.int x1 :: .ref (eB E + 0) :: st) :=
  G_callV (As := [.int x1]) hC d hq hM (by decide) cell_M rfl rfl (gw_X6_open _ _) (wall (by decide +kernel) rfl) rfl ⟨rfl, rfl⟩ hR hsum hcap rfl kk
theorem cl_RX6_295 {x1 : Int32} {v : Int32} {σ1 : gSt} (hC : gCx p s m args meth c cc nL RX6 ret E) (d : decode cc pc = .ok (.invokevirtual 295, 3)) (hq : pc + 3 = q) (hM : gM l yX6_contradictions cX6_contradictions 4 (some .int) rm_X6_contradictions 1 E w σ [.ref (eB E + 0), .int x1] (v, σ1))  (hR : rm_X6_contradictions.frames + 1 ≤ R.frames ∧ 8 + (4 + 11) + rm_X6_contradictions.locals ≤ R.locals) (hsum : (st.map fun v => v.category).sum ≤ 8) (hcap : cells ≤ R.cells ∧ slots ≤ R.slots) (kk : G p l e R s m args below meth c nL cells slots Q E w σ1 q lv (.int v :: st)) : G p l e R s m args below meth c nL cells slots Q E w σ pc lv (.int x1 :: .ref (eB E + 0) :: st) :=
  G_callV (As := [.int x1]) hC d hq hM (by decide) cell_M rfl rfl (gw_X6_contradictions _ _) (wall (by decide +kernel) rfl) rfl ⟨rfl, rfl⟩ hR hsum hcap rfl kk
theorem cl_RX6_298 {x1 : Int32} {x2 : Int32} {v : Int32} {σ1 : gSt} (hC : gCx p s m args meth c cc nL RX6 ret E) (d : decode cc pc = .ok (.invokevirtual 298, 3)) (hq : pc + 3 = q) (hM : gM l yX6_isWithin cX6_isWithin 5 (some .boolean) rm_X6_isWithin 1 E w σ [.ref (eB E + 0), .int x1, .int x2] (v, σ1))  (hR : rm_X6_isWithin.frames + 1 ≤ R.frames ∧ 8 + (5 + 11) + rm_X6_isWithin.locals ≤ R.locals) (hsum : (st.map fun v => v.category).sum ≤ 8) (hcap : cells ≤ R.cells ∧ slots ≤ R.slots) (kk : G p l e R s m args below meth c nL cells slots Q E w σ1 q lv (.int v :: st)) : G p l e R s m args below meth c nL cells slots Q E w σ pc lv (.int x2 :: .int x1 :: .ref (eB E + 0) :: st) :=
  G_callV (As := [.int x1, .int x2]) hC d hq hM (by decide) cell_M rfl rfl (gw_X6_isWithin _ _) (wall (by decide +kernel) rfl) rfl ⟨rfl, rfl⟩ hR hsum hcap rfl kk
theorem cl_RX6_312 {i0 : Nat} {x1 : Int32} {i2 : Nat} {v : Int32} {σ1 : gSt} (hC : gCx p s m args meth c cc nL RX6 ret E) (d : decode cc pc = .ok (.invokevirtual 312, 3)) (hq : pc + 3 = q) (hM : gM l yX3_compareBy cX3_compareBy 8 (some .int) rm_X3_compareBy 1 E w σ [.ref (eB E + oHw i0), .int x1, .ref (eB E + oHw i2)] (v, σ1)) (h0 : i0 < 121) (hR : rm_X3_compareBy.frames + 1 ≤ R.frames ∧ 8 + (8 + 11) + rm_X3_compareBy.locals ≤ R.locals) (hsum : (st.map fun v => v.category).sum ≤ 8) (hcap : cells ≤ R.cells ∧ slots ≤ R.slots) (kk : G p l e R s m args below meth c nL cells slots Q E w σ1 q lv (.int v :: st)) : G p l e R s m args below meth c nL cells slots Q E w σ pc lv (.ref (eB E + oHw i2) :: .int x1 :: .ref (eB E + oHw i0) :: st) :=
  G_callVN (host := RX6) (As := [.int x1, .ref (eB E + oHw i2)]) hC d hq hM (dec_hw i0 h0).2 (cell_Hw h0) rfl rfl (gw_X3_compareBy _ _) (by decide +kernel) rfl ⟨rfl, rfl⟩ hR hsum hcap rfl kk
theorem cl_RX6_316 {x1 : Int32} {x2 : Int32} {v : Int32} {σ1 : gSt} (hC : gCx p s m args meth c cc nL RX6 ret E) (d : decode cc pc = .ok (.invokevirtual 316, 3)) (hq : pc + 3 = q) (hM : gM l yX6_comesAhead cX6_comesAhead 4 (some .boolean) rm_X6_comesAhead 1 E w σ [.ref (eB E + 0), .int x1, .int x2] (v, σ1))  (hR : rm_X6_comesAhead.frames + 1 ≤ R.frames ∧ 8 + (4 + 11) + rm_X6_comesAhead.locals ≤ R.locals) (hsum : (st.map fun v => v.category).sum ≤ 8) (hcap : cells ≤ R.cells ∧ slots ≤ R.slots) (kk : G p l e R s m args below meth c nL cells slots Q E w σ1 q lv (.int v :: st)) : G p l e R s m args below meth c nL cells slots Q E w σ pc lv (.int x2 :: .int x1 :: .ref (eB E + 0) :: st) :=
  G_callV (As := [.int x1, .int x2]) hC d hq hM (by decide) cell_M rfl rfl (gw_X6_comesAhead _ _) (wall (by decide +kernel) rfl) rfl ⟨rfl, rfl⟩ hR hsum hcap rfl kk
theorem cl_RX6_319 {i0 : Nat} {v : Int32} {σ1 : gSt} (hC : gCx p s m args meth c cc nL RX6 ret E) (d : decode cc pc = .ok (.invokevirtual 319, 3)) (hq : pc + 3 = q) (hM : gM l yX3_firstLetter cX3_firstLetter 1 (some .char) rm_X3_firstLetter 1 E w σ [.ref (eB E + oHw i0)] (v, σ1)) (h0 : i0 < 121) (hR : rm_X3_firstLetter.frames + 1 ≤ R.frames ∧ 8 + (1 + 11) + rm_X3_firstLetter.locals ≤ R.locals) (hsum : (st.map fun v => v.category).sum ≤ 8) (hcap : cells ≤ R.cells ∧ slots ≤ R.slots) (kk : G p l e R s m args below meth c nL cells slots Q E w σ1 q lv (.int v :: st)) : G p l e R s m args below meth c nL cells slots Q E w σ pc lv (.ref (eB E + oHw i0) :: st) :=
  G_callVN (host := RX6) (As := []) hC d hq hM (dec_hw i0 h0).2 (cell_Hw h0) rfl rfl (gw_X3_firstLetter _ _) (by decide +kernel) rfl ⟨rfl, rfl⟩ hR hsum hcap rfl kk
theorem cl_RX6_323 {x1 : Int32} {v : Int32} {σ1 : gSt} (hC : gCx p s m args meth c cc nL RX6 ret E) (d : decode cc pc = .ok (.invokevirtual 323, 3)) (hq : pc + 3 = q) (hM : gM l yX6_worthsIn cX6_worthsIn 4 (some .int) rm_X6_worthsIn 1 E w σ [.ref (eB E + 0), .int x1] (v, σ1))  (hR : rm_X6_worthsIn.frames + 1 ≤ R.frames ∧ 8 + (4 + 11) + rm_X6_worthsIn.locals ≤ R.locals) (hsum : (st.map fun v => v.category).sum ≤ 8) (hcap : cells ≤ R.cells ∧ slots ≤ R.slots) (kk : G p l e R s m args below meth c nL cells slots Q E w σ1 q lv (.int v :: st)) : G p l e R s m args below meth c nL cells slots Q E w σ pc lv (.int x1 :: .ref (eB E + 0) :: st) :=
  G_callV (As := [.int x1]) hC d hq hM (by decide) cell_M rfl rfl (gw_X6_worthsIn _ _) (wall (by decide +kernel) rfl) rfl ⟨rfl, rfl⟩ hR hsum hcap rfl kk
theorem cl_RX6_326 {i1 : Nat} {v : Int32} {σ1 : gSt} (hC : gCx p s m args meth c cc nL RX6 ret E) (d : decode cc pc = .ok (.invokevirtual 326, 3)) (hq : pc + 3 = q) (hM : gM l yX6_isOfPrintedVolume cX6_isOfPrintedVolume 3 (some .boolean) rm_X6_isOfPrintedVolume 1 E w σ [.ref (eB E + 0), .ref (eB E + oHw i1)] (v, σ1))  (hR : rm_X6_isOfPrintedVolume.frames + 1 ≤ R.frames ∧ 8 + (3 + 11) + rm_X6_isOfPrintedVolume.locals ≤ R.locals) (hsum : (st.map fun v => v.category).sum ≤ 8) (hcap : cells ≤ R.cells ∧ slots ≤ R.slots) (kk : G p l e R s m args below meth c nL cells slots Q E w σ1 q lv (.int v :: st)) : G p l e R s m args below meth c nL cells slots Q E w σ pc lv (.ref (eB E + oHw i1) :: .ref (eB E + 0) :: st) :=
  G_callV (As := [.ref (eB E + oHw i1)]) hC d hq hM (by decide) cell_M rfl rfl (gw_X6_isOfPrintedVolume _ _) (wall (by decide +kernel) rfl) rfl ⟨rfl, rfl⟩ hR hsum hcap rfl kk
theorem cl_RX6_330 {i1 : Nat} {i2 : Nat} {v : Int32} {σ1 : gSt} (hC : gCx p s m args meth c cc nL RX6 ret E) (d : decode cc pc = .ok (.invokevirtual 330, 3)) (hq : pc + 3 = q) (hM : gM l yX6_refersTo cX6_refersTo 4 (some .boolean) rm_X6_refersTo 1 E w σ [.ref (eB E + 0), .ref (eB E + oArt i1), .ref (eB E + oArt i2)] (v, σ1))  (hR : rm_X6_refersTo.frames + 1 ≤ R.frames ∧ 8 + (4 + 11) + rm_X6_refersTo.locals ≤ R.locals) (hsum : (st.map fun v => v.category).sum ≤ 8) (hcap : cells ≤ R.cells ∧ slots ≤ R.slots) (kk : G p l e R s m args below meth c nL cells slots Q E w σ1 q lv (.int v :: st)) : G p l e R s m args below meth c nL cells slots Q E w σ pc lv (.ref (eB E + oArt i2) :: .ref (eB E + oArt i1) :: .ref (eB E + 0) :: st) :=
  G_callV (As := [.ref (eB E + oArt i1), .ref (eB E + oArt i2)]) hC d hq hM (by decide) cell_M rfl rfl (gw_X6_refersTo _ _) (wall (by decide +kernel) rfl) rfl ⟨rfl, rfl⟩ hR hsum hcap rfl kk
theorem cl_RX6_334 {i1 : Nat} {i2 : Nat} {v : Int32} {σ1 : gSt} (hC : gCx p s m args meth c cc nL RX6 ret E) (d : decode cc pc = .ok (.invokevirtual 334, 3)) (hq : pc + 3 = q) (hM : gM l yX6_areAlike cX6_areAlike 3 (some .boolean) rm_X6_areAlike 1 E w σ [.ref (eB E + 0), .ref (eB E + oHw i1), .ref (eB E + oHw i2)] (v, σ1))  (hR : rm_X6_areAlike.frames + 1 ≤ R.frames ∧ 8 + (3 + 11) + rm_X6_areAlike.locals ≤ R.locals) (hsum : (st.map fun v => v.category).sum ≤ 8) (hcap : cells ≤ R.cells ∧ slots ≤ R.slots) (kk : G p l e R s m args below meth c nL cells slots Q E w σ1 q lv (.int v :: st)) : G p l e R s m args below meth c nL cells slots Q E w σ pc lv (.ref (eB E + oHw i2) :: .ref (eB E + oHw i1) :: .ref (eB E + 0) :: st) :=
  G_callV (As := [.ref (eB E + oHw i1), .ref (eB E + oHw i2)]) hC d hq hM (by decide) cell_M rfl rfl (gw_X6_areAlike _ _) (wall (by decide +kernel) rfl) rfl ⟨rfl, rfl⟩ hR hsum hcap rfl kk
theorem cl_RX6_338 {i0 : Nat} {x1 : Int32} {v : Int32} {σ1 : gSt} (hC : gCx p s m args meth c cc nL RX6 ret E) (d : decode cc pc = .ok (.invokevirtual 338, 3)) (hq : pc + 3 = q) (hM : gM l yX1_monthsFor cX1_monthsFor 2 (some .int) rm_X1_monthsFor 1 E w σ [.ref (eB E + oCon i0), .int x1] (v, σ1)) (h0 : i0 < 6) (hR : rm_X1_monthsFor.frames + 1 ≤ R.frames ∧ 8 + (2 + 11) + rm_X1_monthsFor.locals ≤ R.locals) (hsum : (st.map fun v => v.category).sum ≤ 8) (hcap : cells ≤ R.cells ∧ slots ≤ R.slots) (kk : G p l e R s m args below meth c nL cells slots Q E w σ1 q lv (.int v :: st)) : G p l e R s m args below meth c nL cells slots Q E w σ pc lv (.int x1 :: .ref (eB E + oCon i0) :: st) :=
  G_callVN (host := RX6) (As := [.int x1]) hC d hq hM (dec_con i0 h0).2 (cell_Con h0) rfl rfl (gw_X1_monthsFor _ _) (by decide +kernel) rfl ⟨rfl, rfl⟩ hR hsum hcap rfl kk
theorem cl_RX6_344 {i0 : Nat} {v : Int32} {σ1 : gSt} (hC : gCx p s m args meth c cc nL RX6 ret E) (d : decode cc pc = .ok (.invokevirtual 344, 3)) (hq : pc + 3 = q) (hM : gM l yX1_removeFirst cX1_removeFirst 1 none rm_X1_removeFirst 0 E w σ [.ref (eB E + oCon i0)] (v, σ1)) (h0 : i0 < 6) (hR : rm_X1_removeFirst.frames + 1 ≤ R.frames ∧ 8 + (1 + 11) + rm_X1_removeFirst.locals ≤ R.locals) (hsum : (st.map fun v => v.category).sum ≤ 8) (hcap : cells ≤ R.cells ∧ slots ≤ R.slots) (kk : G p l e R s m args below meth c nL cells slots Q E w σ1 q lv st) : G p l e R s m args below meth c nL cells slots Q E w σ pc lv (.ref (eB E + oCon i0) :: st) :=
  G_callVN (host := RX6) (As := []) hC d hq hM (dec_con i0 h0).2 (cell_Con h0) rfl rfl (gw_X1_removeFirst _ _) (by decide +kernel) rfl ⟨rfl, rfl⟩ hR hsum hcap rfl kk
theorem cl_RX6_347 {i0 : Nat} {v : Int32} {σ1 : gSt} (hC : gCx p s m args meth c cc nL RX6 ret E) (d : decode cc pc = .ok (.invokevirtual 347, 3)) (hq : pc + 3 = q) (hM : gM l yX0_isReady cX0_isReady 1 (some .boolean) rm_X0_isReady 1 E w σ [.ref (eB E + oArt i0)] (v, σ1)) (h0 : i0 < 24) (hR : rm_X0_isReady.frames + 1 ≤ R.frames ∧ 8 + (1 + 11) + rm_X0_isReady.locals ≤ R.locals) (hsum : (st.map fun v => v.category).sum ≤ 8) (hcap : cells ≤ R.cells ∧ slots ≤ R.slots) (kk : G p l e R s m args below meth c nL cells slots Q E w σ1 q lv (.int v :: st)) : G p l e R s m args below meth c nL cells slots Q E w σ pc lv (.ref (eB E + oArt i0) :: st) :=
  G_callVN (host := RX6) (As := []) hC d hq hM (dec_art i0 h0).2 (cell_Art h0) rfl rfl (gw_X0_isReady _ _) (by decide +kernel) rfl ⟨rfl, rfl⟩ hR hsum hcap rfl kk
theorem cl_RX6_350 {i0 : Nat} {f1 : Nat} {i1 : Nat} {v : Int32} {σ1 : gSt} (hC : gCx p s m args meth c cc nL RX6 ret E) (d : decode cc pc = .ok (.invokevirtual 350, 3)) (hq : pc + 3 = q) (hM : gM l yX0_putToPress cX0_putToPress 2 none rm_X0_putToPress 0 E w σ [.ref (eB E + oArt i0), .ref (eB E + oA f1 i1)] (v, σ1)) (h0 : i0 < 24) (hR : rm_X0_putToPress.frames + 1 ≤ R.frames ∧ 8 + (2 + 11) + rm_X0_putToPress.locals ≤ R.locals) (hsum : (st.map fun v => v.category).sum ≤ 8) (hcap : cells ≤ R.cells ∧ slots ≤ R.slots) (kk : G p l e R s m args below meth c nL cells slots Q E w σ1 q lv st) : G p l e R s m args below meth c nL cells slots Q E w σ pc lv (.ref (eB E + oA f1 i1) :: .ref (eB E + oArt i0) :: st) :=
  G_callVN (host := RX6) (As := [.ref (eB E + oA f1 i1)]) hC d hq hM (dec_art i0 h0).2 (cell_Art h0) rfl rfl (gw_X0_putToPress _ _) (by decide +kernel) rfl ⟨rfl, rfl⟩ hR hsum hcap rfl kk
theorem cl_RX6_360 {i1 : Nat} {v : Int32} {σ1 : gSt} (hC : gCx p s m args meth c cc nL RX6 ret E) (d : decode cc pc = .ok (.invokevirtual 360, 3)) (hq : pc + 3 = q) (hM : gM l yX6_fateOf cX6_fateOf 2 (some (.object "CircleOfLeaves$Fate")) rm_X6_fateOf 2 E w σ [.ref (eB E + 0), .ref (eB E + oHw i1)] (v, σ1))  (hR : rm_X6_fateOf.frames + 1 ≤ R.frames ∧ 8 + (2 + 11) + rm_X6_fateOf.locals ≤ R.locals) (hsum : (st.map fun v => v.category).sum ≤ 8) (hcap : cells ≤ R.cells ∧ slots ≤ R.slots) (kk : G p l e R s m args below meth c nL cells slots Q E w σ1 q lv (.ref (eF E v.toNatClampNeg) :: st)) : G p l e R s m args below meth c nL cells slots Q E w σ pc lv (.ref (eB E + oHw i1) :: .ref (eB E + 0) :: st) :=
  G_callV (As := [.ref (eB E + oHw i1)]) hC d hq hM (by decide) cell_M rfl rfl (gw_X6_fateOf _ _) (wall (by decide +kernel) rfl) rfl ⟨rfl, rfl⟩ hR hsum hcap rfl kk
theorem cl_RX6_364 {i1 : Nat} {v : Int32} {σ1 : gSt} (hC : gCx p s m args meth c cc nL RX6 ret E) (d : decode cc pc = .ok (.invokevirtual 364, 3)) (hq : pc + 3 = q) (hM : gM l yX6_isThere cX6_isThere 3 (some .boolean) rm_X6_isThere 1 E w σ [.ref (eB E + 0), .ref (eB E + oHw i1)] (v, σ1))  (hR : rm_X6_isThere.frames + 1 ≤ R.frames ∧ 8 + (3 + 11) + rm_X6_isThere.locals ≤ R.locals) (hsum : (st.map fun v => v.category).sum ≤ 8) (hcap : cells ≤ R.cells ∧ slots ≤ R.slots) (kk : G p l e R s m args below meth c nL cells slots Q E w σ1 q lv (.int v :: st)) : G p l e R s m args below meth c nL cells slots Q E w σ pc lv (.ref (eB E + oHw i1) :: .ref (eB E + 0) :: st) :=
  G_callV (As := [.ref (eB E + oHw i1)]) hC d hq hM (by decide) cell_M rfl rfl (gw_X6_isThere _ _) (wall (by decide +kernel) rfl) rfl ⟨rfl, rfl⟩ hR hsum hcap rfl kk
theorem cl_RX6_373 {i1 : Nat} {v : Int32} {σ1 : gSt} (hC : gCx p s m args meth c cc nL RX6 ret E) (d : decode cc pc = .ok (.invokevirtual 373, 3)) (hq : pc + 3 = q) (hM : gM l yX6_isBroken cX6_isBroken 2 (some .boolean) rm_X6_isBroken 1 E w σ [.ref (eB E + 0), .ref (eB E + oRef i1)] (v, σ1))  (hR : rm_X6_isBroken.frames + 1 ≤ R.frames ∧ 8 + (2 + 11) + rm_X6_isBroken.locals ≤ R.locals) (hsum : (st.map fun v => v.category).sum ≤ 8) (hcap : cells ≤ R.cells ∧ slots ≤ R.slots) (kk : G p l e R s m args below meth c nL cells slots Q E w σ1 q lv (.int v :: st)) : G p l e R s m args below meth c nL cells slots Q E w σ pc lv (.ref (eB E + oRef i1) :: .ref (eB E + 0) :: st) :=
  G_callV (As := [.ref (eB E + oRef i1)]) hC d hq hM (by decide) cell_M rfl rfl (gw_X6_isBroken _ _) (wall (by decide +kernel) rfl) rfl ⟨rfl, rfl⟩ hR hsum hcap rfl kk
theorem cl_RX6_380 {x1 : Int32} {v : Int32} {σ1 : gSt} (hC : gCx p s m args meth c cc nL RX6 ret E) (d : decode cc pc = .ok (.invokevirtual 380, 3)) (hq : pc + 3 = q) (hM : gM l yX6_addErratum cX6_addErratum 2 none rm_X6_addErratum 0 E w σ [.ref (eB E + 0), .int x1] (v, σ1))  (hR : rm_X6_addErratum.frames + 1 ≤ R.frames ∧ 8 + (2 + 11) + rm_X6_addErratum.locals ≤ R.locals) (hsum : (st.map fun v => v.category).sum ≤ 8) (hcap : cells ≤ R.cells ∧ slots ≤ R.slots) (kk : G p l e R s m args below meth c nL cells slots Q E w σ1 q lv st) : G p l e R s m args below meth c nL cells slots Q E w σ pc lv (.int x1 :: .ref (eB E + 0) :: st) :=
  G_callV (As := [.int x1]) hC d hq hM (by decide) cell_M rfl rfl (gw_X6_addErratum _ _) (wall (by decide +kernel) rfl) rfl ⟨rfl, rfl⟩ hR hsum hcap rfl kk
theorem cl_RX0_47 {i0 : Nat} {v : Int32} {σ1 : gSt} (hC : gCx p s m args meth c cc nL RX0 ret E) (d : decode cc pc = .ok (.invokevirtual 47, 3)) (hq : pc + 3 = q) (hM : gM l yX0_isBlind cX0_isBlind 1 (some .boolean) rm_X0_isBlind 1 E w σ [.ref (eB E + oArt i0)] (v, σ1)) (h0 : i0 < 24) (hR : rm_X0_isBlind.frames + 1 ≤ R.frames ∧ 8 + (1 + 11) + rm_X0_isBlind.locals ≤ R.locals) (hsum : (st.map fun v => v.category).sum ≤ 8) (hcap : cells ≤ R.cells ∧ slots ≤ R.slots) (kk : G p l e R s m args below meth c nL cells slots Q E w σ1 q lv (.int v :: st)) : G p l e R s m args below meth c nL cells slots Q E w σ pc lv (.ref (eB E + oArt i0) :: st) :=
  G_callV (As := []) hC d hq hM (dec_art i0 h0).2 (cell_Art h0) rfl rfl (gw_X0_isBlind _ _) (wall (by decide +kernel) rfl) rfl ⟨rfl, rfl⟩ hR hsum hcap rfl kk
theorem cl_RX3_22 {x0 : Int32} {v : Int32} {σ1 : gSt} (hC : gCx p s m args meth c cc nL RX3 ret E) (d : decode cc pc = .ok (.invokestatic 22, 3)) (hq : pc + 3 = q) (hM : gM l yX6_isGap cX6_isGap 1 (some .boolean) rm_X6_isGap 1 E w σ [.int x0] (v, σ1))  (hR : rm_X6_isGap.frames + 1 ≤ R.frames ∧ 8 + (1 + 11) + rm_X6_isGap.locals ≤ R.locals) (hsum : (st.map fun v => v.category).sum ≤ 8) (hcap : cells ≤ R.cells ∧ slots ≤ R.slots) (kk : G p l e R s m args below meth c nL cells slots Q E w σ1 q lv (.int v :: st)) : G p l e R s m args below meth c nL cells slots Q E w σ pc lv (.int x0 :: st) :=
  G_callSN (host := RX6) (As := [.int x0]) hC d hq hM gw_X6_isGap (by decide +kernel) rfl ⟨rfl, rfl⟩ hR hsum hcap rfl kk
theorem cl_RX3_26 {x0 : Int32} {v : Int32} {σ1 : gSt} (hC : gCx p s m args meth c cc nL RX3 ret E) (d : decode cc pc = .ok (.invokestatic 26, 3)) (hq : pc + 3 = q) (hM : gM l yX6_isLetter cX6_isLetter 1 (some .boolean) rm_X6_isLetter 1 E w σ [.int x0] (v, σ1))  (hR : rm_X6_isLetter.frames + 1 ≤ R.frames ∧ 8 + (1 + 11) + rm_X6_isLetter.locals ≤ R.locals) (hsum : (st.map fun v => v.category).sum ≤ 8) (hcap : cells ≤ R.cells ∧ slots ≤ R.slots) (kk : G p l e R s m args below meth c nL cells slots Q E w σ1 q lv (.int v :: st)) : G p l e R s m args below meth c nL cells slots Q E w σ pc lv (.int x0 :: st) :=
  G_callSN (host := RX6) (As := [.int x0]) hC d hq hM gw_X6_isLetter (by decide +kernel) rfl ⟨rfl, rfl⟩ hR hsum hcap rfl kk
theorem cl_RX3_38 {i0 : Nat} {v : Int32} {σ1 : gSt} (hC : gCx p s m args meth c cc nL RX3 ret E) (d : decode cc pc = .ok (.invokevirtual 38, 3)) (hq : pc + 3 = q) (hM : gM l yX3_clear cX3_clear 1 none rm_X3_clear 0 E w σ [.ref (eB E + oHw i0)] (v, σ1)) (h0 : i0 < 121) (hR : rm_X3_clear.frames + 1 ≤ R.frames ∧ 8 + (1 + 11) + rm_X3_clear.locals ≤ R.locals) (hsum : (st.map fun v => v.category).sum ≤ 8) (hcap : cells ≤ R.cells ∧ slots ≤ R.slots) (kk : G p l e R s m args below meth c nL cells slots Q E w σ1 q lv st) : G p l e R s m args below meth c nL cells slots Q E w σ pc lv (.ref (eB E + oHw i0) :: st) :=
  G_callV (As := []) hC d hq hM (dec_hw i0 h0).2 (cell_Hw h0) rfl rfl (gw_X3_clear _ _) (wall (by decide +kernel) rfl) rfl ⟨rfl, rfl⟩ hR hsum hcap rfl kk
theorem cl_RX7_81 {x0 : Int32} {x1 : Int32} {x2 : Int32} {v : Int32} {σ1 : gSt} (hC : gCx p s m args meth c cc nL RX7 ret E) (d : decode cc pc = .ok (.invokestatic 81, 3)) (hq : pc + 3 = q) (hM : gM l yX7_isIn cX7_isIn 3 (some .boolean) rm_X7_isIn 1 E w σ [.int x0, .int x1, .int x2] (v, σ1))  (hR : rm_X7_isIn.frames + 1 ≤ R.frames ∧ 8 + (3 + 11) + rm_X7_isIn.locals ≤ R.locals) (hsum : (st.map fun v => v.category).sum ≤ 8) (hcap : cells ≤ R.cells ∧ slots ≤ R.slots) (kk : G p l e R s m args below meth c nL cells slots Q E w σ1 q lv (.int v :: st)) : G p l e R s m args below meth c nL cells slots Q E w σ pc lv (.int x2 :: .int x1 :: .int x0 :: st) :=
  G_callS (As := [.int x0, .int x1, .int x2]) hC d hq hM gw_X7_isIn (wall (by decide +kernel) rfl) rfl ⟨rfl, rfl⟩ hR hsum hcap rfl kk
theorem cl_RX7_92 {x1 : Int32} {x2 : Int32} {v : Int32} {σ1 : gSt} (hC : gCx p s m args meth c cc nL RX7 ret E) (d : decode cc pc = .ok (.invokevirtual 92, 3)) (hq : pc + 3 = q) (hM : gM l yX7_next cX7_next 4 (some .int) rm_X7_next 1 E w σ [.ref (eB E + 583), .int x1, .int x2] (v, σ1))  (hR : rm_X7_next.frames + 1 ≤ R.frames ∧ 8 + (4 + 11) + rm_X7_next.locals ≤ R.locals) (hsum : (st.map fun v => v.category).sum ≤ 8) (hcap : cells ≤ R.cells ∧ slots ≤ R.slots) (kk : G p l e R s m args below meth c nL cells slots Q E w σ1 q lv (.int v :: st)) : G p l e R s m args below meth c nL cells slots Q E w σ pc lv (.int x2 :: .int x1 :: .ref (eB E + 583) :: st) :=
  G_callV (As := [.int x1, .int x2]) hC d hq hM (by decide) cell_X rfl rfl (gw_X7_next _ _) (wall (by decide +kernel) rfl) rfl ⟨rfl, rfl⟩ hR hsum hcap rfl kk
theorem cl_RX7_99 {x1 : Int32} {v : Int32} {σ1 : gSt} (hC : gCx p s m args meth c cc nL RX7 ret E) (d : decode cc pc = .ok (.invokevirtual 99, 3)) (hq : pc + 3 = q) (hM : gM l yX7_firstLetter cX7_firstLetter 3 (some .int) rm_X7_firstLetter 1 E w σ [.ref (eB E + 583), .int x1] (v, σ1))  (hR : rm_X7_firstLetter.frames + 1 ≤ R.frames ∧ 8 + (3 + 11) + rm_X7_firstLetter.locals ≤ R.locals) (hsum : (st.map fun v => v.category).sum ≤ 8) (hcap : cells ≤ R.cells ∧ slots ≤ R.slots) (kk : G p l e R s m args below meth c nL cells slots Q E w σ1 q lv (.int v :: st)) : G p l e R s m args below meth c nL cells slots Q E w σ pc lv (.int x1 :: .ref (eB E + 583) :: st) :=
  G_callV (As := [.int x1]) hC d hq hM (by decide) cell_X rfl rfl (gw_X7_firstLetter _ _) (wall (by decide +kernel) rfl) rfl ⟨rfl, rfl⟩ hR hsum hcap rfl kk
theorem cl_RX7_103 {x1 : Int32} {v : Int32} {σ1 : gSt} (hC : gCx p s m args meth c cc nL RX7 ret E) (d : decode cc pc = .ok (.invokevirtual 103, 3)) (hq : pc + 3 = q) (hM : gM l yX7_goes cX7_goes 2 (some .boolean) rm_X7_goes 1 E w σ [.ref (eB E + 583), .int x1] (v, σ1))  (hR : rm_X7_goes.frames + 1 ≤ R.frames ∧ 8 + (2 + 11) + rm_X7_goes.locals ≤ R.locals) (hsum : (st.map fun v => v.category).sum ≤ 8) (hcap : cells ≤ R.cells ∧ slots ≤ R.slots) (kk : G p l e R s m args below meth c nL cells slots Q E w σ1 q lv (.int v :: st)) : G p l e R s m args below meth c nL cells slots Q E w σ pc lv (.int x1 :: .ref (eB E + 583) :: st) :=
  G_callV (As := [.int x1]) hC d hq hM (by decide) cell_X rfl rfl (gw_X7_goes _ _) (wall (by decide +kernel) rfl) rfl ⟨rfl, rfl⟩ hR hsum hcap rfl kk
theorem cl_RX7_110 {x0 : Int32} {v : Int32} {σ1 : gSt} (hC : gCx p s m args meth c cc nL RX7 ret E) (d : decode cc pc = .ok (.invokestatic 110, 3)) (hq : pc + 3 = q) (hM : gM l yX7_isSubject cX7_isSubject 1 (some .boolean) rm_X7_isSubject 1 E w σ [.int x0] (v, σ1))  (hR : rm_X7_isSubject.frames + 1 ≤ R.frames ∧ 8 + (1 + 11) + rm_X7_isSubject.locals ≤ R.locals) (hsum : (st.map fun v => v.category).sum ≤ 8) (hcap : cells ≤ R.cells ∧ slots ≤ R.slots) (kk : G p l e R s m args below meth c nL cells slots Q E w σ1 q lv (.int v :: st)) : G p l e R s m args below meth c nL cells slots Q E w σ pc lv (.int x0 :: st) :=
  G_callS (As := [.int x0]) hC d hq hM gw_X7_isSubject (wall (by decide +kernel) rfl) rfl ⟨rfl, rfl⟩ hR hsum hcap rfl kk
theorem cl_RX7_113 {x1 : Int32} {v : Int32} {σ1 : gSt} (hC : gCx p s m args meth c cc nL RX7 ret E) (d : decode cc pc = .ok (.invokevirtual 113, 3)) (hq : pc + 3 = q) (hM : gM l yX7_takes cX7_takes 3 none rm_X7_takes 0 E w σ [.ref (eB E + 583), .int x1] (v, σ1))  (hR : rm_X7_takes.frames + 1 ≤ R.frames ∧ 8 + (3 + 11) + rm_X7_takes.locals ≤ R.locals) (hsum : (st.map fun v => v.category).sum ≤ 8) (hcap : cells ≤ R.cells ∧ slots ≤ R.slots) (kk : G p l e R s m args below meth c nL cells slots Q E w σ1 q lv st) : G p l e R s m args below meth c nL cells slots Q E w σ pc lv (.int x1 :: .ref (eB E + 583) :: st) :=
  G_callV (As := [.int x1]) hC d hq hM (by decide) cell_X rfl rfl (gw_X7_takes _ _) (wall (by decide +kernel) rfl) rfl ⟨rfl, rfl⟩ hR hsum hcap rfl kk
theorem cl_RX7_117 {x1 : Int32} {v : Int32} {σ1 : gSt} (hC : gCx p s m args meth c cc nL RX7 ret E) (d : decode cc pc = .ok (.invokevirtual 117, 3)) (hq : pc + 3 = q) (hM : gM l yX7_isArticle cX7_isArticle 2 (some .boolean) rm_X7_isArticle 1 E w σ [.ref (eB E + 583), .int x1] (v, σ1))  (hR : rm_X7_isArticle.frames + 1 ≤ R.frames ∧ 8 + (2 + 11) + rm_X7_isArticle.locals ≤ R.locals) (hsum : (st.map fun v => v.category).sum ≤ 8) (hcap : cells ≤ R.cells ∧ slots ≤ R.slots) (kk : G p l e R s m args below meth c nL cells slots Q E w σ1 q lv (.int v :: st)) : G p l e R s m args below meth c nL cells slots Q E w σ pc lv (.int x1 :: .ref (eB E + 583) :: st) :=
  G_callV (As := [.int x1]) hC d hq hM (by decide) cell_X rfl rfl (gw_X7_isArticle _ _) (wall (by decide +kernel) rfl) rfl ⟨rfl, rfl⟩ hR hsum hcap rfl kk
theorem cl_RX7_120 {x0 : Int32} {x1 : Int32} {v : Int32} {σ1 : gSt} (hC : gCx p s m args meth c cc nL RX7 ret E) (d : decode cc pc = .ok (.invokestatic 120, 3)) (hq : pc + 3 = q) (hM : gM l yX7_reference cX7_reference 2 (some .int) rm_X7_reference 1 E w σ [.int x0, .int x1] (v, σ1))  (hR : rm_X7_reference.frames + 1 ≤ R.frames ∧ 8 + (2 + 11) + rm_X7_reference.locals ≤ R.locals) (hsum : (st.map fun v => v.category).sum ≤ 8) (hcap : cells ≤ R.cells ∧ slots ≤ R.slots) (kk : G p l e R s m args below meth c nL cells slots Q E w σ1 q lv (.int v :: st)) : G p l e R s m args below meth c nL cells slots Q E w σ pc lv (.int x1 :: .int x0 :: st) :=
  G_callS (As := [.int x0, .int x1]) hC d hq hM gw_X7_reference (wall (by decide +kernel) rfl) rfl ⟨rfl, rfl⟩ hR hsum hcap rfl kk
theorem cl_RX7_123 {x0 : Int32} {v : Int32} {σ1 : gSt} (hC : gCx p s m args meth c cc nL RX7 ret E) (d : decode cc pc = .ok (.invokestatic 123, 3)) (hq : pc + 3 = q) (hM : gM l yX7_isFact cX7_isFact 1 (some .boolean) rm_X7_isFact 1 E w σ [.int x0] (v, σ1))  (hR : rm_X7_isFact.frames + 1 ≤ R.frames ∧ 8 + (1 + 11) + rm_X7_isFact.locals ≤ R.locals) (hsum : (st.map fun v => v.category).sum ≤ 8) (hcap : cells ≤ R.cells ∧ slots ≤ R.slots) (kk : G p l e R s m args below meth c nL cells slots Q E w σ1 q lv (.int v :: st)) : G p l e R s m args below meth c nL cells slots Q E w σ pc lv (.int x0 :: st) :=
  G_callS (As := [.int x0]) hC d hq hM gw_X7_isFact (wall (by decide +kernel) rfl) rfl ⟨rfl, rfl⟩ hR hsum hcap rfl kk
theorem cl_RX7_126 {x1 : Int32} {x2 : Int32} {v : Int32} {σ1 : gSt} (hC : gCx p s m args meth c cc nL RX7 ret E) (d : decode cc pc = .ok (.invokevirtual 126, 3)) (hq : pc + 3 = q) (hM : gM l yX7_order cX7_order 6 (some .int) rm_X7_order 1 E w σ [.ref (eB E + 583), .int x1, .int x2] (v, σ1))  (hR : rm_X7_order.frames + 1 ≤ R.frames ∧ 8 + (6 + 11) + rm_X7_order.locals ≤ R.locals) (hsum : (st.map fun v => v.category).sum ≤ 8) (hcap : cells ≤ R.cells ∧ slots ≤ R.slots) (kk : G p l e R s m args below meth c nL cells slots Q E w σ1 q lv (.int v :: st)) : G p l e R s m args below meth c nL cells slots Q E w σ pc lv (.int x2 :: .int x1 :: .ref (eB E + 583) :: st) :=
  G_callV (As := [.int x1, .int x2]) hC d hq hM (by decide) cell_X rfl rfl (gw_X7_order _ _) (wall (by decide +kernel) rfl) rfl ⟨rfl, rfl⟩ hR hsum hcap rfl kk
theorem cl_RX7_129 {x1 : Int32} {v : Int32} {σ1 : gSt} (hC : gCx p s m args meth c cc nL RX7 ret E) (d : decode cc pc = .ok (.invokevirtual 129, 3)) (hq : pc + 3 = q) (hM : gM l yX7_volumeOf cX7_volumeOf 3 (some .int) rm_X7_volumeOf 1 E w σ [.ref (eB E + 583), .int x1] (v, σ1))  (hR : rm_X7_volumeOf.frames + 1 ≤ R.frames ∧ 8 + (3 + 11) + rm_X7_volumeOf.locals ≤ R.locals) (hsum : (st.map fun v => v.category).sum ≤ 8) (hcap : cells ≤ R.cells ∧ slots ≤ R.slots) (kk : G p l e R s m args below meth c nL cells slots Q E w σ1 q lv (.int v :: st)) : G p l e R s m args below meth c nL cells slots Q E w σ pc lv (.int x1 :: .ref (eB E + 583) :: st) :=
  G_callV (As := [.int x1]) hC d hq hM (by decide) cell_X rfl rfl (gw_X7_volumeOf _ _) (wall (by decide +kernel) rfl) rfl ⟨rfl, rfl⟩ hR hsum hcap rfl kk
theorem cl_RX7_132 {x1 : Int32} {x2 : Int32} {v : Int32} {σ1 : gSt} (hC : gCx p s m args meth c cc nL RX7 ret E) (d : decode cc pc = .ok (.invokevirtual 132, 3)) (hq : pc + 3 = q) (hM : gM l yX7_isAhead cX7_isAhead 4 (some .boolean) rm_X7_isAhead 1 E w σ [.ref (eB E + 583), .int x1, .int x2] (v, σ1))  (hR : rm_X7_isAhead.frames + 1 ≤ R.frames ∧ 8 + (4 + 11) + rm_X7_isAhead.locals ≤ R.locals) (hsum : (st.map fun v => v.category).sum ≤ 8) (hcap : cells ≤ R.cells ∧ slots ≤ R.slots) (kk : G p l e R s m args below meth c nL cells slots Q E w σ1 q lv (.int v :: st)) : G p l e R s m args below meth c nL cells slots Q E w σ pc lv (.int x2 :: .int x1 :: .ref (eB E + 583) :: st) :=
  G_callV (As := [.int x1, .int x2]) hC d hq hM (by decide) cell_X rfl rfl (gw_X7_isAhead _ _) (wall (by decide +kernel) rfl) rfl ⟨rfl, rfl⟩ hR hsum hcap rfl kk
theorem cl_RX7_136 {x1 : Int32} {v : Int32} {σ1 : gSt} (hC : gCx p s m args meth c cc nL RX7 ret E) (d : decode cc pc = .ok (.invokevirtual 136, 3)) (hq : pc + 3 = q) (hM : gM l yX7_isContributor cX7_isContributor 2 (some .boolean) rm_X7_isContributor 1 E w σ [.ref (eB E + 583), .int x1] (v, σ1))  (hR : rm_X7_isContributor.frames + 1 ≤ R.frames ∧ 8 + (2 + 11) + rm_X7_isContributor.locals ≤ R.locals) (hsum : (st.map fun v => v.category).sum ≤ 8) (hcap : cells ≤ R.cells ∧ slots ≤ R.slots) (kk : G p l e R s m args below meth c nL cells slots Q E w σ1 q lv (.int v :: st)) : G p l e R s m args below meth c nL cells slots Q E w σ pc lv (.int x1 :: .ref (eB E + 583) :: st) :=
  G_callV (As := [.int x1]) hC d hq hM (by decide) cell_X rfl rfl (gw_X7_isContributor _ _) (wall (by decide +kernel) rfl) rfl ⟨rfl, rfl⟩ hR hsum hcap rfl kk
theorem cl_RX7_139 {x1 : Int32} {x2 : Int32} {v : Int32} {σ1 : gSt} (hC : gCx p s m args meth c cc nL RX7 ret E) (d : decode cc pc = .ok (.invokevirtual 139, 3)) (hq : pc + 3 = q) (hM : gM l yX7_refersTo cX7_refersTo 5 (some .boolean) rm_X7_refersTo 1 E w σ [.ref (eB E + 583), .int x1, .int x2] (v, σ1))  (hR : rm_X7_refersTo.frames + 1 ≤ R.frames ∧ 8 + (5 + 11) + rm_X7_refersTo.locals ≤ R.locals) (hsum : (st.map fun v => v.category).sum ≤ 8) (hcap : cells ≤ R.cells ∧ slots ≤ R.slots) (kk : G p l e R s m args below meth c nL cells slots Q E w σ1 q lv (.int v :: st)) : G p l e R s m args below meth c nL cells slots Q E w σ pc lv (.int x2 :: .int x1 :: .ref (eB E + 583) :: st) :=
  G_callV (As := [.int x1, .int x2]) hC d hq hM (by decide) cell_X rfl rfl (gw_X7_refersTo _ _) (wall (by decide +kernel) rfl) rfl ⟨rfl, rfl⟩ hR hsum hcap rfl kk
theorem cl_RX7_142 {x1 : Int32} {x2 : Int32} {v : Int32} {σ1 : gSt} (hC : gCx p s m args meth c cc nL RX7 ret E) (d : decode cc pc = .ok (.invokevirtual 142, 3)) (hq : pc + 3 = q) (hM : gM l yX7_isBarred cX7_isBarred 6 (some .boolean) rm_X7_isBarred 1 E w σ [.ref (eB E + 583), .int x1, .int x2] (v, σ1))  (hR : rm_X7_isBarred.frames + 1 ≤ R.frames ∧ 8 + (6 + 11) + rm_X7_isBarred.locals ≤ R.locals) (hsum : (st.map fun v => v.category).sum ≤ 8) (hcap : cells ≤ R.cells ∧ slots ≤ R.slots) (kk : G p l e R s m args below meth c nL cells slots Q E w σ1 q lv (.int v :: st)) : G p l e R s m args below meth c nL cells slots Q E w σ pc lv (.int x2 :: .int x1 :: .ref (eB E + 583) :: st) :=
  G_callV (As := [.int x1, .int x2]) hC d hq hM (by decide) cell_X rfl rfl (gw_X7_isBarred _ _) (wall (by decide +kernel) rfl) rfl ⟨rfl, rfl⟩ hR hsum hcap rfl kk
theorem cl_RX7_145 {x1 : Int32} {v : Int32} {σ1 : gSt} (hC : gCx p s m args meth c cc nL RX7 ret E) (d : decode cc pc = .ok (.invokevirtual 145, 3)) (hq : pc + 3 = q) (hM : gM l yX7_columns cX7_columns 9 (some .int) rm_X7_columns 1 E w σ [.ref (eB E + 583), .int x1] (v, σ1))  (hR : rm_X7_columns.frames + 1 ≤ R.frames ∧ 8 + (9 + 11) + rm_X7_columns.locals ≤ R.locals) (hsum : (st.map fun v => v.category).sum ≤ 8) (hcap : cells ≤ R.cells ∧ slots ≤ R.slots) (kk : G p l e R s m args below meth c nL cells slots Q E w σ1 q lv (.int v :: st)) : G p l e R s m args below meth c nL cells slots Q E w σ pc lv (.int x1 :: .ref (eB E + 583) :: st) :=
  G_callV (As := [.int x1]) hC d hq hM (by decide) cell_X rfl rfl (gw_X7_columns _ _) (wall (by decide +kernel) rfl) rfl ⟨rfl, rfl⟩ hR hsum hcap rfl kk
theorem cl_RX7_151 {x1 : Int32} {x2 : Int32} {v : Int32} {σ1 : gSt} (hC : gCx p s m args meth c cc nL RX7 ret E) (d : decode cc pc = .ok (.invokevirtual 151, 3)) (hq : pc + 3 = q) (hM : gM l yX7_canBeGiven cX7_canBeGiven 4 (some .boolean) rm_X7_canBeGiven 1 E w σ [.ref (eB E + 583), .int x1, .int x2] (v, σ1))  (hR : rm_X7_canBeGiven.frames + 1 ≤ R.frames ∧ 8 + (4 + 11) + rm_X7_canBeGiven.locals ≤ R.locals) (hsum : (st.map fun v => v.category).sum ≤ 8) (hcap : cells ≤ R.cells ∧ slots ≤ R.slots) (kk : G p l e R s m args below meth c nL cells slots Q E w σ1 q lv (.int v :: st)) : G p l e R s m args below meth c nL cells slots Q E w σ pc lv (.int x2 :: .int x1 :: .ref (eB E + 583) :: st) :=
  G_callV (As := [.int x1, .int x2]) hC d hq hM (by decide) cell_X rfl rfl (gw_X7_canBeGiven _ _) (wall (by decide +kernel) rfl) rfl ⟨rfl, rfl⟩ hR hsum hcap rfl kk
theorem cl_RX7_154 {x1 : Int32} {v : Int32} {σ1 : gSt} (hC : gCx p s m args meth c cc nL RX7 ret E) (d : decode cc pc = .ok (.invokevirtual 154, 3)) (hq : pc + 3 = q) (hM : gM l yX7_toWrite cX7_toWrite 4 (some .int) rm_X7_toWrite 1 E w σ [.ref (eB E + 583), .int x1] (v, σ1))  (hR : rm_X7_toWrite.frames + 1 ≤ R.frames ∧ 8 + (4 + 11) + rm_X7_toWrite.locals ≤ R.locals) (hsum : (st.map fun v => v.category).sum ≤ 8) (hcap : cells ≤ R.cells ∧ slots ≤ R.slots) (kk : G p l e R s m args below meth c nL cells slots Q E w σ1 q lv (.int v :: st)) : G p l e R s m args below meth c nL cells slots Q E w σ pc lv (.int x1 :: .ref (eB E + 583) :: st) :=
  G_callV (As := [.int x1]) hC d hq hM (by decide) cell_X rfl rfl (gw_X7_toWrite _ _) (wall (by decide +kernel) rfl) rfl ⟨rfl, rfl⟩ hR hsum hcap rfl kk
theorem cl_RX7_160 {x1 : Int32} {x2 : Int32} {v : Int32} {σ1 : gSt} (hC : gCx p s m args meth c cc nL RX7 ret E) (d : decode cc pc = .ok (.invokevirtual 160, 3)) (hq : pc + 3 = q) (hM : gM l yX7_begins cX7_begins 4 none rm_X7_begins 0 E w σ [.ref (eB E + 583), .int x1, .int x2] (v, σ1))  (hR : rm_X7_begins.frames + 1 ≤ R.frames ∧ 8 + (4 + 11) + rm_X7_begins.locals ≤ R.locals) (hsum : (st.map fun v => v.category).sum ≤ 8) (hcap : cells ≤ R.cells ∧ slots ≤ R.slots) (kk : G p l e R s m args below meth c nL cells slots Q E w σ1 q lv st) : G p l e R s m args below meth c nL cells slots Q E w σ pc lv (.int x2 :: .int x1 :: .ref (eB E + 583) :: st) :=
  G_callV (As := [.int x1, .int x2]) hC d hq hM (by decide) cell_X rfl rfl (gw_X7_begins _ _) (wall (by decide +kernel) rfl) rfl ⟨rfl, rfl⟩ hR hsum hcap rfl kk
theorem cl_RX7_164 {x1 : Int32} {v : Int32} {σ1 : gSt} (hC : gCx p s m args meth c cc nL RX7 ret E) (d : decode cc pc = .ok (.invokevirtual 164, 3)) (hq : pc + 3 = q) (hM : gM l yX7_first cX7_first 5 (some .int) rm_X7_first 1 E w σ [.ref (eB E + 583), .int x1] (v, σ1))  (hR : rm_X7_first.frames + 1 ≤ R.frames ∧ 8 + (5 + 11) + rm_X7_first.locals ≤ R.locals) (hsum : (st.map fun v => v.category).sum ≤ 8) (hcap : cells ≤ R.cells ∧ slots ≤ R.slots) (kk : G p l e R s m args below meth c nL cells slots Q E w σ1 q lv (.int v :: st)) : G p l e R s m args below meth c nL cells slots Q E w σ pc lv (.int x1 :: .ref (eB E + 583) :: st) :=
  G_callV (As := [.int x1]) hC d hq hM (by decide) cell_X rfl rfl (gw_X7_first _ _) (wall (by decide +kernel) rfl) rfl ⟨rfl, rfl⟩ hR hsum hcap rfl kk
theorem cl_RX7_167 {x1 : Int32} {v : Int32} {σ1 : gSt} (hC : gCx p s m args meth c cc nL RX7 ret E) (d : decode cc pc = .ok (.invokevirtual 167, 3)) (hq : pc + 3 = q) (hM : gM l yX7_isPrinted cX7_isPrinted 4 (some .boolean) rm_X7_isPrinted 1 E w σ [.ref (eB E + 583), .int x1] (v, σ1))  (hR : rm_X7_isPrinted.frames + 1 ≤ R.frames ∧ 8 + (4 + 11) + rm_X7_isPrinted.locals ≤ R.locals) (hsum : (st.map fun v => v.category).sum ≤ 8) (hcap : cells ≤ R.cells ∧ slots ≤ R.slots) (kk : G p l e R s m args below meth c nL cells slots Q E w σ1 q lv (.int v :: st)) : G p l e R s m args below meth c nL cells slots Q E w σ pc lv (.int x1 :: .ref (eB E + 583) :: st) :=
  G_callV (As := [.int x1]) hC d hq hM (by decide) cell_X rfl rfl (gw_X7_isPrinted _ _) (wall (by decide +kernel) rfl) rfl ⟨rfl, rfl⟩ hR hsum hcap rfl kk
theorem cl_RX7_170 {x1 : Int32} {v : Int32} {σ1 : gSt} (hC : gCx p s m args meth c cc nL RX7 ret E) (d : decode cc pc = .ok (.invokevirtual 170, 3)) (hq : pc + 3 = q) (hM : gM l yX7_isPromise cX7_isPromise 3 (some .boolean) rm_X7_isPromise 1 E w σ [.ref (eB E + 583), .int x1] (v, σ1))  (hR : rm_X7_isPromise.frames + 1 ≤ R.frames ∧ 8 + (3 + 11) + rm_X7_isPromise.locals ≤ R.locals) (hsum : (st.map fun v => v.category).sum ≤ 8) (hcap : cells ≤ R.cells ∧ slots ≤ R.slots) (kk : G p l e R s m args below meth c nL cells slots Q E w σ1 q lv (.int v :: st)) : G p l e R s m args below meth c nL cells slots Q E w σ pc lv (.int x1 :: .ref (eB E + 583) :: st) :=
  G_callV (As := [.int x1]) hC d hq hM (by decide) cell_X rfl rfl (gw_X7_isPromise _ _) (wall (by decide +kernel) rfl) rfl ⟨rfl, rfl⟩ hR hsum hcap rfl kk
theorem cl_RX7_176 {x1 : Int32} {x2 : Int32} {v : Int32} {σ1 : gSt} (hC : gCx p s m args meth c cc nL RX7 ret E) (d : decode cc pc = .ok (.invokevirtual 176, 3)) (hq : pc + 3 = q) (hM : gM l yX7_prints cX7_prints 8 (some .int) rm_X7_prints 1 E w σ [.ref (eB E + 583), .int x1, .int x2] (v, σ1))  (hR : rm_X7_prints.frames + 1 ≤ R.frames ∧ 8 + (8 + 11) + rm_X7_prints.locals ≤ R.locals) (hsum : (st.map fun v => v.category).sum ≤ 8) (hcap : cells ≤ R.cells ∧ slots ≤ R.slots) (kk : G p l e R s m args below meth c nL cells slots Q E w σ1 q lv (.int v :: st)) : G p l e R s m args below meth c nL cells slots Q E w σ pc lv (.int x2 :: .int x1 :: .ref (eB E + 583) :: st) :=
  G_callV (As := [.int x1, .int x2]) hC d hq hM (by decide) cell_X rfl rfl (gw_X7_prints _ _) (wall (by decide +kernel) rfl) rfl ⟨rfl, rfl⟩ hR hsum hcap rfl kk
theorem cl_RX7_179 {x1 : Int32} {x2 : Int32} {v : Int32} {σ1 : gSt} (hC : gCx p s m args meth c cc nL RX7 ret E) (d : decode cc pc = .ok (.invokevirtual 179, 3)) (hq : pc + 3 = q) (hM : gM l yX7_isOpen cX7_isOpen 4 (some .boolean) rm_X7_isOpen 1 E w σ [.ref (eB E + 583), .int x1, .int x2] (v, σ1))  (hR : rm_X7_isOpen.frames + 1 ≤ R.frames ∧ 8 + (4 + 11) + rm_X7_isOpen.locals ≤ R.locals) (hsum : (st.map fun v => v.category).sum ≤ 8) (hcap : cells ≤ R.cells ∧ slots ≤ R.slots) (kk : G p l e R s m args below meth c nL cells slots Q E w σ1 q lv (.int v :: st)) : G p l e R s m args below meth c nL cells slots Q E w σ pc lv (.int x2 :: .int x1 :: .ref (eB E + 583) :: st) :=
  G_callV (As := [.int x1, .int x2]) hC d hq hM (by decide) cell_X rfl rfl (gw_X7_isOpen _ _) (wall (by decide +kernel) rfl) rfl ⟨rfl, rfl⟩ hR hsum hcap rfl kk
theorem cl_RX7_182 {x1 : Int32} {v : Int32} {σ1 : gSt} (hC : gCx p s m args meth c cc nL RX7 ret E) (d : decode cc pc = .ok (.invokevirtual 182, 3)) (hq : pc + 3 = q) (hM : gM l yX7_opens cX7_opens 5 (some .int) rm_X7_opens 1 E w σ [.ref (eB E + 583), .int x1] (v, σ1))  (hR : rm_X7_opens.frames + 1 ≤ R.frames ∧ 8 + (5 + 11) + rm_X7_opens.locals ≤ R.locals) (hsum : (st.map fun v => v.category).sum ≤ 8) (hcap : cells ≤ R.cells ∧ slots ≤ R.slots) (kk : G p l e R s m args below meth c nL cells slots Q E w σ1 q lv (.int v :: st)) : G p l e R s m args below meth c nL cells slots Q E w σ pc lv (.int x1 :: .ref (eB E + 583) :: st) :=
  G_callV (As := [.int x1]) hC d hq hM (by decide) cell_X rfl rfl (gw_X7_opens _ _) (wall (by decide +kernel) rfl) rfl ⟨rfl, rfl⟩ hR hsum hcap rfl kk
theorem cl_RX7_186 {x1 : Int32} {v : Int32} {σ1 : gSt} (hC : gCx p s m args meth c cc nL RX7 ret E) (d : decode cc pc = .ok (.invokevirtual 186, 3)) (hq : pc + 3 = q) (hM : gM l yX7_contradicts cX7_contradicts 9 (some .int) rm_X7_contradicts 1 E w σ [.ref (eB E + 583), .int x1] (v, σ1))  (hR : rm_X7_contradicts.frames + 1 ≤ R.frames ∧ 8 + (9 + 11) + rm_X7_contradicts.locals ≤ R.locals) (hsum : (st.map fun v => v.category).sum ≤ 8) (hcap : cells ≤ R.cells ∧ slots ≤ R.slots) (kk : G p l e R s m args below meth c nL cells slots Q E w σ1 q lv (.int v :: st)) : G p l e R s m args below meth c nL cells slots Q E w σ pc lv (.int x1 :: .ref (eB E + 583) :: st) :=
  G_callV (As := [.int x1]) hC d hq hM (by decide) cell_X rfl rfl (gw_X7_contradicts _ _) (wall (by decide +kernel) rfl) rfl ⟨rfl, rfl⟩ hR hsum hcap rfl kk
end GL2
theorem thA1 : ∀ w ∈ vx_atS RX6 55 gIAE gUp, w ∈ WALL ∨ w ∈ XWL := by decide +kernel
theorem thA2 : ∀ w ∈ vx_atS RX6 66 gISE gUp, w ∈ WALL ∨ w ∈ XWL := by decide +kernel
theorem thA3 : ∀ w ∈ vx_atS RX6 250 gIOE gUp, w ∈ WALL ∨ w ∈ XWL := by decide +kernel
theorem thB1 : ∀ w ∈ vx_atS RX6 55 gIAE gUp, vx_ot w = true := by decide +kernel
theorem thB2 : ∀ w ∈ vx_atS RX6 66 gISE gUp, vx_ot w = true := by decide +kernel
theorem thB3 : ∀ w ∈ vx_atS RX6 250 gIOE gUp, vx_ot w = true := by decide +kernel
end
