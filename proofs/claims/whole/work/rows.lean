section
-- ===== PART A: goes FIRST, ahead of the names: the tables' words, and 'selects' of the private methods out of them =====
/-- a private method of a class that the tables say can be made, by its rows of tables_1 -/
def lw_okq (q : MethodName × Nat) : Prop := (q.1.cls ≠ "java/lang/invoke/MethodHandle" ∧ q.1.cls ≠ "java/lang/invoke/VarHandle") ∧ Cond.instantiable q.1.cls q.2 ∈ tables_1 ∧ Cond.privateMethod q.1 ∈ tables_1 ∧ Cond.instanceMethod q.1 ∈ tables_1
theorem lw_p0 : lw_okq (⟨"CircleOfLeaves$Headword", "clear", "()V"⟩, 4) := ⟨⟨by decide +kernel, by decide +kernel⟩, List.mem_of_getElem? (i := 27) (by decide +kernel), List.mem_of_getElem? (i := 213) (by decide +kernel), List.mem_of_getElem? (i := 214) (by decide +kernel)⟩
theorem lw_p1 : lw_okq (⟨"CircleOfLeaves$Article", "countReferences", "(LCircleOfLeaves$Fate;)I"⟩, 12) := ⟨⟨by decide +kernel, by decide +kernel⟩, List.mem_of_getElem? (i := 53) (by decide +kernel), List.mem_of_getElem? (i := 227) (by decide +kernel), List.mem_of_getElem? (i := 228) (by decide +kernel)⟩
theorem lw_p2 : lw_okq (⟨"CircleOfLeaves$Article", "isReadIn", "(Z)Z"⟩, 12) := ⟨⟨by decide +kernel, by decide +kernel⟩, List.mem_of_getElem? (i := 53) (by decide +kernel), List.mem_of_getElem? (i := 235) (by decide +kernel), List.mem_of_getElem? (i := 236) (by decide +kernel)⟩
theorem lw_p3 : lw_okq (⟨"CircleOfLeaves", "countBroken", "(LCircleOfLeaves$Article;)I"⟩, 12) := ⟨⟨by decide +kernel, by decide +kernel⟩, List.mem_of_getElem? (i := 19) (by decide +kernel), List.mem_of_getElem? (i := 239) (by decide +kernel), List.mem_of_getElem? (i := 240) (by decide +kernel)⟩
theorem lw_p4 : lw_okq (⟨"CircleOfLeaves", "isBroken", "(LCircleOfLeaves$Reference;)Z"⟩, 12) := ⟨⟨by decide +kernel, by decide +kernel⟩, List.mem_of_getElem? (i := 19) (by decide +kernel), List.mem_of_getElem? (i := 243) (by decide +kernel), List.mem_of_getElem? (i := 244) (by decide +kernel)⟩
theorem lw_p5 : lw_okq (⟨"CircleOfLeaves", "isOfPrintedVolume", "(LCircleOfLeaves$Headword;)Z"⟩, 12) := ⟨⟨by decide +kernel, by decide +kernel⟩, List.mem_of_getElem? (i := 19) (by decide +kernel), List.mem_of_getElem? (i := 249) (by decide +kernel), List.mem_of_getElem? (i := 250) (by decide +kernel)⟩
theorem lw_p6 : lw_okq (⟨"CircleOfLeaves", "volumeOf", "(LCircleOfLeaves$Headword;)I"⟩, 12) := ⟨⟨by decide +kernel, by decide +kernel⟩, List.mem_of_getElem? (i := 19) (by decide +kernel), List.mem_of_getElem? (i := 253) (by decide +kernel), List.mem_of_getElem? (i := 254) (by decide +kernel)⟩
theorem lw_p7 : lw_okq (⟨"CircleOfLeaves$Headword", "firstLetter", "()C"⟩, 4) := ⟨⟨by decide +kernel, by decide +kernel⟩, List.mem_of_getElem? (i := 27) (by decide +kernel), List.mem_of_getElem? (i := 257) (by decide +kernel), List.mem_of_getElem? (i := 258) (by decide +kernel)⟩
theorem lw_p8 : lw_okq (⟨"CircleOfLeaves", "isThere", "(LCircleOfLeaves$Headword;)Z"⟩, 12) := ⟨⟨by decide +kernel, by decide +kernel⟩, List.mem_of_getElem? (i := 19) (by decide +kernel), List.mem_of_getElem? (i := 261) (by decide +kernel), List.mem_of_getElem? (i := 262) (by decide +kernel)⟩
theorem lw_p9 : lw_okq (⟨"CircleOfLeaves", "areAlike", "(LCircleOfLeaves$Headword;LCircleOfLeaves$Headword;)Z"⟩, 12) := ⟨⟨by decide +kernel, by decide +kernel⟩, List.mem_of_getElem? (i := 19) (by decide +kernel), List.mem_of_getElem? (i := 265) (by decide +kernel), List.mem_of_getElem? (i := 266) (by decide +kernel)⟩
theorem lw_p10 : lw_okq (⟨"CircleOfLeaves$Headword", "compareBy", "(ZLCircleOfLeaves$Headword;)I"⟩, 4) := ⟨⟨by decide +kernel, by decide +kernel⟩, List.mem_of_getElem? (i := 27) (by decide +kernel), List.mem_of_getElem? (i := 269) (by decide +kernel), List.mem_of_getElem? (i := 270) (by decide +kernel)⟩
theorem lw_p11 : lw_okq (⟨"CircleOfLeaves", "isContradicted", "(IZ)Z"⟩, 12) := ⟨⟨by decide +kernel, by decide +kernel⟩, List.mem_of_getElem? (i := 19) (by decide +kernel), List.mem_of_getElem? (i := 277) (by decide +kernel), List.mem_of_getElem? (i := 278) (by decide +kernel)⟩
theorem lw_p12 : lw_okq (⟨"java/lang/Throwable", "fillInStackTrace", "(I)Ljava/lang/Throwable;"⟩, 6) := ⟨⟨by decide +kernel, by decide +kernel⟩, List.mem_of_getElem? (i := 340) (by decide +kernel), List.mem_of_getElem? (i := 338) (by decide +kernel), List.mem_of_getElem? (i := 339) (by decide +kernel)⟩
theorem lw_p13 : lw_okq (⟨"CircleOfLeaves$Headword", "add", "(C)V"⟩, 4) := ⟨⟨by decide +kernel, by decide +kernel⟩, List.mem_of_getElem? (i := 27) (by decide +kernel), List.mem_of_getElem? (i := 386) (by decide +kernel), List.mem_of_getElem? (i := 387) (by decide +kernel)⟩
theorem lw_p14 : lw_okq (⟨"CircleOfLeaves$Headword", "hasLetter", "()Z"⟩, 4) := ⟨⟨by decide +kernel, by decide +kernel⟩, List.mem_of_getElem? (i := 27) (by decide +kernel), List.mem_of_getElem? (i := 428) (by decide +kernel), List.mem_of_getElem? (i := 429) (by decide +kernel)⟩
theorem lw_p15 : lw_okq (⟨"CircleOfLeaves$Headword", "take", "(LCircleOfLeaves$Headword;)V"⟩, 4) := ⟨⟨by decide +kernel, by decide +kernel⟩, List.mem_of_getElem? (i := 27) (by decide +kernel), List.mem_of_getElem? (i := 433) (by decide +kernel), List.mem_of_getElem? (i := 434) (by decide +kernel)⟩
def lw_privs_1 : List (MethodName × Nat) := [(⟨"CircleOfLeaves$Headword", "clear", "()V"⟩, 4), (⟨"CircleOfLeaves$Article", "countReferences", "(LCircleOfLeaves$Fate;)I"⟩, 12), (⟨"CircleOfLeaves$Article", "isReadIn", "(Z)Z"⟩, 12), (⟨"CircleOfLeaves", "countBroken", "(LCircleOfLeaves$Article;)I"⟩, 12), (⟨"CircleOfLeaves", "isBroken", "(LCircleOfLeaves$Reference;)Z"⟩, 12), (⟨"CircleOfLeaves", "isOfPrintedVolume", "(LCircleOfLeaves$Headword;)Z"⟩, 12), (⟨"CircleOfLeaves", "volumeOf", "(LCircleOfLeaves$Headword;)I"⟩, 12), (⟨"CircleOfLeaves$Headword", "firstLetter", "()C"⟩, 4), (⟨"CircleOfLeaves", "isThere", "(LCircleOfLeaves$Headword;)Z"⟩, 12), (⟨"CircleOfLeaves", "areAlike", "(LCircleOfLeaves$Headword;LCircleOfLeaves$Headword;)Z"⟩, 12), (⟨"CircleOfLeaves$Headword", "compareBy", "(ZLCircleOfLeaves$Headword;)I"⟩, 4), (⟨"CircleOfLeaves", "isContradicted", "(IZ)Z"⟩, 12), (⟨"java/lang/Throwable", "fillInStackTrace", "(I)Ljava/lang/Throwable;"⟩, 6), (⟨"CircleOfLeaves$Headword", "add", "(C)V"⟩, 4), (⟨"CircleOfLeaves$Headword", "hasLetter", "()Z"⟩, 4), (⟨"CircleOfLeaves$Headword", "take", "(LCircleOfLeaves$Headword;)V"⟩, 4)]
theorem lw_r1 : ∀ q ∈ lw_privs_1, lw_okq q := List.forall_mem_cons.mpr ⟨lw_p0, List.forall_mem_cons.mpr ⟨lw_p1, List.forall_mem_cons.mpr ⟨lw_p2, List.forall_mem_cons.mpr ⟨lw_p3, List.forall_mem_cons.mpr ⟨lw_p4, List.forall_mem_cons.mpr ⟨lw_p5, List.forall_mem_cons.mpr ⟨lw_p6, List.forall_mem_cons.mpr ⟨lw_p7, List.forall_mem_cons.mpr ⟨lw_p8, List.forall_mem_cons.mpr ⟨lw_p9, List.forall_mem_cons.mpr ⟨lw_p10, List.forall_mem_cons.mpr ⟨lw_p11, List.forall_mem_cons.mpr ⟨lw_p12, List.forall_mem_cons.mpr ⟨lw_p13, List.forall_mem_cons.mpr ⟨lw_p14, List.forall_mem_cons.mpr ⟨lw_p15, fun _ h => absurd h List.not_mem_nil⟩⟩⟩⟩⟩⟩⟩⟩⟩⟩⟩⟩⟩⟩⟩⟩
theorem lw_p16 : lw_okq (⟨"CircleOfLeaves", "requireArticle", "(I)V"⟩, 12) := ⟨⟨by decide +kernel, by decide +kernel⟩, List.mem_of_getElem? (i := 19) (by decide +kernel), List.mem_of_getElem? (i := 456) (by decide +kernel), List.mem_of_getElem? (i := 457) (by decide +kernel)⟩
theorem lw_p17 : lw_okq (⟨"CircleOfLeaves$Article", "isBlind", "()Z"⟩, 12) := ⟨⟨by decide +kernel, by decide +kernel⟩, List.mem_of_getElem? (i := 53) (by decide +kernel), List.mem_of_getElem? (i := 473) (by decide +kernel), List.mem_of_getElem? (i := 474) (by decide +kernel)⟩
theorem lw_p18 : lw_okq (⟨"CircleOfLeaves", "requireContributor", "(I)V"⟩, 12) := ⟨⟨by decide +kernel, by decide +kernel⟩, List.mem_of_getElem? (i := 19) (by decide +kernel), List.mem_of_getElem? (i := 519) (by decide +kernel), List.mem_of_getElem? (i := 520) (by decide +kernel)⟩
theorem lw_p19 : lw_okq (⟨"CircleOfLeaves", "isToBeGiven", "(LCircleOfLeaves$Article;)Z"⟩, 12) := ⟨⟨by decide +kernel, by decide +kernel⟩, List.mem_of_getElem? (i := 19) (by decide +kernel), List.mem_of_getElem? (i := 532) (by decide +kernel), List.mem_of_getElem? (i := 533) (by decide +kernel)⟩
theorem lw_p20 : lw_okq (⟨"CircleOfLeaves", "isAmongEnemies", "(LCircleOfLeaves$Article;LCircleOfLeaves$Contributor;)Z"⟩, 12) := ⟨⟨by decide +kernel, by decide +kernel⟩, List.mem_of_getElem? (i := 19) (by decide +kernel), List.mem_of_getElem? (i := 536) (by decide +kernel), List.mem_of_getElem? (i := 537) (by decide +kernel)⟩
theorem lw_p21 : lw_okq (⟨"CircleOfLeaves", "refersTo", "(LCircleOfLeaves$Article;LCircleOfLeaves$Article;)Z"⟩, 12) := ⟨⟨by decide +kernel, by decide +kernel⟩, List.mem_of_getElem? (i := 19) (by decide +kernel), List.mem_of_getElem? (i := 540) (by decide +kernel), List.mem_of_getElem? (i := 541) (by decide +kernel)⟩
theorem lw_p22 : lw_okq (⟨"CircleOfLeaves$Contributor", "addToWrite", "(I)V"⟩, 6) := ⟨⟨by decide +kernel, by decide +kernel⟩, List.mem_of_getElem? (i := 143) (by decide +kernel), List.mem_of_getElem? (i := 545) (by decide +kernel), List.mem_of_getElem? (i := 546) (by decide +kernel)⟩
theorem lw_p23 : lw_okq (⟨"CircleOfLeaves", "beginFirst", "(LCircleOfLeaves$Contributor;)V"⟩, 12) := ⟨⟨by decide +kernel, by decide +kernel⟩, List.mem_of_getElem? (i := 19) (by decide +kernel), List.mem_of_getElem? (i := 549) (by decide +kernel), List.mem_of_getElem? (i := 550) (by decide +kernel)⟩
theorem lw_p24 : lw_okq (⟨"CircleOfLeaves", "columnsOf", "(I)I"⟩, 12) := ⟨⟨by decide +kernel, by decide +kernel⟩, List.mem_of_getElem? (i := 19) (by decide +kernel), List.mem_of_getElem? (i := 553) (by decide +kernel), List.mem_of_getElem? (i := 554) (by decide +kernel)⟩
theorem lw_p25 : lw_okq (⟨"CircleOfLeaves", "worthsIn", "(I)I"⟩, 12) := ⟨⟨by decide +kernel, by decide +kernel⟩, List.mem_of_getElem? (i := 19) (by decide +kernel), List.mem_of_getElem? (i := 557) (by decide +kernel), List.mem_of_getElem? (i := 558) (by decide +kernel)⟩
theorem lw_p26 : lw_okq (⟨"CircleOfLeaves", "comesAhead", "(II)Z"⟩, 12) := ⟨⟨by decide +kernel, by decide +kernel⟩, List.mem_of_getElem? (i := 19) (by decide +kernel), List.mem_of_getElem? (i := 561) (by decide +kernel), List.mem_of_getElem? (i := 562) (by decide +kernel)⟩
theorem lw_p27 : lw_okq (⟨"CircleOfLeaves$Contributor", "monthsFor", "(I)I"⟩, 6) := ⟨⟨by decide +kernel, by decide +kernel⟩, List.mem_of_getElem? (i := 143) (by decide +kernel), List.mem_of_getElem? (i := 565) (by decide +kernel), List.mem_of_getElem? (i := 566) (by decide +kernel)⟩
theorem lw_p28 : lw_okq (⟨"CircleOfLeaves", "endsAnArticle", "(LCircleOfLeaves$Contributor;)Z"⟩, 12) := ⟨⟨by decide +kernel, by decide +kernel⟩, List.mem_of_getElem? (i := 19) (by decide +kernel), List.mem_of_getElem? (i := 588) (by decide +kernel), List.mem_of_getElem? (i := 589) (by decide +kernel)⟩
theorem lw_p29 : lw_okq (⟨"CircleOfLeaves$Contributor", "removeFirst", "()V"⟩, 6) := ⟨⟨by decide +kernel, by decide +kernel⟩, List.mem_of_getElem? (i := 143) (by decide +kernel), List.mem_of_getElem? (i := 592) (by decide +kernel), List.mem_of_getElem? (i := 593) (by decide +kernel)⟩
theorem lw_p30 : lw_okq (⟨"CircleOfLeaves", "requireVolume", "(I)V"⟩, 12) := ⟨⟨by decide +kernel, by decide +kernel⟩, List.mem_of_getElem? (i := 19) (by decide +kernel), List.mem_of_getElem? (i := 604) (by decide +kernel), List.mem_of_getElem? (i := 605) (by decide +kernel)⟩
theorem lw_p31 : lw_okq (⟨"CircleOfLeaves", "putToPressFrom", "(I)I"⟩, 12) := ⟨⟨by decide +kernel, by decide +kernel⟩, List.mem_of_getElem? (i := 19) (by decide +kernel), List.mem_of_getElem? (i := 610) (by decide +kernel), List.mem_of_getElem? (i := 611) (by decide +kernel)⟩
def lw_privs_2 : List (MethodName × Nat) := [(⟨"CircleOfLeaves", "requireArticle", "(I)V"⟩, 12), (⟨"CircleOfLeaves$Article", "isBlind", "()Z"⟩, 12), (⟨"CircleOfLeaves", "requireContributor", "(I)V"⟩, 12), (⟨"CircleOfLeaves", "isToBeGiven", "(LCircleOfLeaves$Article;)Z"⟩, 12), (⟨"CircleOfLeaves", "isAmongEnemies", "(LCircleOfLeaves$Article;LCircleOfLeaves$Contributor;)Z"⟩, 12), (⟨"CircleOfLeaves", "refersTo", "(LCircleOfLeaves$Article;LCircleOfLeaves$Article;)Z"⟩, 12), (⟨"CircleOfLeaves$Contributor", "addToWrite", "(I)V"⟩, 6), (⟨"CircleOfLeaves", "beginFirst", "(LCircleOfLeaves$Contributor;)V"⟩, 12), (⟨"CircleOfLeaves", "columnsOf", "(I)I"⟩, 12), (⟨"CircleOfLeaves", "worthsIn", "(I)I"⟩, 12), (⟨"CircleOfLeaves", "comesAhead", "(II)Z"⟩, 12), (⟨"CircleOfLeaves$Contributor", "monthsFor", "(I)I"⟩, 6), (⟨"CircleOfLeaves", "endsAnArticle", "(LCircleOfLeaves$Contributor;)Z"⟩, 12), (⟨"CircleOfLeaves$Contributor", "removeFirst", "()V"⟩, 6), (⟨"CircleOfLeaves", "requireVolume", "(I)V"⟩, 12), (⟨"CircleOfLeaves", "putToPressFrom", "(I)I"⟩, 12)]
theorem lw_r2 : ∀ q ∈ lw_privs_2, lw_okq q := List.forall_mem_cons.mpr ⟨lw_p16, List.forall_mem_cons.mpr ⟨lw_p17, List.forall_mem_cons.mpr ⟨lw_p18, List.forall_mem_cons.mpr ⟨lw_p19, List.forall_mem_cons.mpr ⟨lw_p20, List.forall_mem_cons.mpr ⟨lw_p21, List.forall_mem_cons.mpr ⟨lw_p22, List.forall_mem_cons.mpr ⟨lw_p23, List.forall_mem_cons.mpr ⟨lw_p24, List.forall_mem_cons.mpr ⟨lw_p25, List.forall_mem_cons.mpr ⟨lw_p26, List.forall_mem_cons.mpr ⟨lw_p27, List.forall_mem_cons.mpr ⟨lw_p28, List.forall_mem_cons.mpr ⟨lw_p29, List.forall_mem_cons.mpr ⟨lw_p30, List.forall_mem_cons.mpr ⟨lw_p31, fun _ h => absurd h List.not_mem_nil⟩⟩⟩⟩⟩⟩⟩⟩⟩⟩⟩⟩⟩⟩⟩⟩
theorem lw_p32 : lw_okq (⟨"CircleOfLeaves$Article", "isReady", "()Z"⟩, 12) := ⟨⟨by decide +kernel, by decide +kernel⟩, List.mem_of_getElem? (i := 53) (by decide +kernel), List.mem_of_getElem? (i := 614) (by decide +kernel), List.mem_of_getElem? (i := 615) (by decide +kernel)⟩
theorem lw_p33 : lw_okq (⟨"CircleOfLeaves$Article", "putToPress", "([I)V"⟩, 12) := ⟨⟨by decide +kernel, by decide +kernel⟩, List.mem_of_getElem? (i := 53) (by decide +kernel), List.mem_of_getElem? (i := 619) (by decide +kernel), List.mem_of_getElem? (i := 620) (by decide +kernel)⟩
theorem lw_p34 : lw_okq (⟨"CircleOfLeaves", "lookAtReferences", "()V"⟩, 12) := ⟨⟨by decide +kernel, by decide +kernel⟩, List.mem_of_getElem? (i := 19) (by decide +kernel), List.mem_of_getElem? (i := 624) (by decide +kernel), List.mem_of_getElem? (i := 625) (by decide +kernel)⟩
theorem lw_p35 : lw_okq (⟨"CircleOfLeaves", "fateOf", "(LCircleOfLeaves$Headword;)LCircleOfLeaves$Fate;"⟩, 12) := ⟨⟨by decide +kernel, by decide +kernel⟩, List.mem_of_getElem? (i := 19) (by decide +kernel), List.mem_of_getElem? (i := 629) (by decide +kernel), List.mem_of_getElem? (i := 630) (by decide +kernel)⟩
theorem lw_p36 : lw_okq (⟨"CircleOfLeaves", "tellFacts", "()I"⟩, 12) := ⟨⟨by decide +kernel, by decide +kernel⟩, List.mem_of_getElem? (i := 19) (by decide +kernel), List.mem_of_getElem? (i := 643) (by decide +kernel), List.mem_of_getElem? (i := 644) (by decide +kernel)⟩
theorem lw_p37 : lw_okq (⟨"CircleOfLeaves", "addErratum", "(I)V"⟩, 12) := ⟨⟨by decide +kernel, by decide +kernel⟩, List.mem_of_getElem? (i := 19) (by decide +kernel), List.mem_of_getElem? (i := 647) (by decide +kernel), List.mem_of_getElem? (i := 648) (by decide +kernel)⟩
theorem lw_p38 : lw_okq (⟨"CircleOfLeaves", "tellPromises", "()I"⟩, 12) := ⟨⟨by decide +kernel, by decide +kernel⟩, List.mem_of_getElem? (i := 19) (by decide +kernel), List.mem_of_getElem? (i := 651) (by decide +kernel), List.mem_of_getElem? (i := 652) (by decide +kernel)⟩
theorem lw_p39 : lw_okq (⟨"CircleOfLeaves", "placeOf", "(I)I"⟩, 12) := ⟨⟨by decide +kernel, by decide +kernel⟩, List.mem_of_getElem? (i := 19) (by decide +kernel), List.mem_of_getElem? (i := 665) (by decide +kernel), List.mem_of_getElem? (i := 666) (by decide +kernel)⟩
theorem lw_p40 : lw_okq (⟨"CircleOfLeaves$Article", "state", "()I"⟩, 12) := ⟨⟨by decide +kernel, by decide +kernel⟩, List.mem_of_getElem? (i := 53) (by decide +kernel), List.mem_of_getElem? (i := 677) (by decide +kernel), List.mem_of_getElem? (i := 678) (by decide +kernel)⟩
theorem lw_p41 : lw_okq (⟨"CircleOfLeaves", "isWithin", "(II)Z"⟩, 12) := ⟨⟨by decide +kernel, by decide +kernel⟩, List.mem_of_getElem? (i := 19) (by decide +kernel), List.mem_of_getElem? (i := 695) (by decide +kernel), List.mem_of_getElem? (i := 696) (by decide +kernel)⟩
theorem lw_p42 : lw_okq (⟨"CircleOfLeavesModel", "goes", "(I)Z"⟩, 30) := ⟨⟨by decide +kernel, by decide +kernel⟩, List.mem_of_getElem? (i := 699) (by decide +kernel), List.mem_of_getElem? (i := 804) (by decide +kernel), List.mem_of_getElem? (i := 805) (by decide +kernel)⟩
theorem lw_p43 : lw_okq (⟨"CircleOfLeavesModel", "firstLetter", "(I)I"⟩, 30) := ⟨⟨by decide +kernel, by decide +kernel⟩, List.mem_of_getElem? (i := 699) (by decide +kernel), List.mem_of_getElem? (i := 826) (by decide +kernel), List.mem_of_getElem? (i := 827) (by decide +kernel)⟩
theorem lw_p44 : lw_okq (⟨"CircleOfLeavesModel", "takes", "(I)V"⟩, 30) := ⟨⟨by decide +kernel, by decide +kernel⟩, List.mem_of_getElem? (i := 699) (by decide +kernel), List.mem_of_getElem? (i := 830) (by decide +kernel), List.mem_of_getElem? (i := 831) (by decide +kernel)⟩
theorem lw_p45 : lw_okq (⟨"CircleOfLeavesModel", "isArticle", "(I)Z"⟩, 30) := ⟨⟨by decide +kernel, by decide +kernel⟩, List.mem_of_getElem? (i := 699) (by decide +kernel), List.mem_of_getElem? (i := 842) (by decide +kernel), List.mem_of_getElem? (i := 843) (by decide +kernel)⟩
theorem lw_p46 : lw_okq (⟨"CircleOfLeavesModel", "isContributor", "(I)Z"⟩, 30) := ⟨⟨by decide +kernel, by decide +kernel⟩, List.mem_of_getElem? (i := 699) (by decide +kernel), List.mem_of_getElem? (i := 876) (by decide +kernel), List.mem_of_getElem? (i := 877) (by decide +kernel)⟩
theorem lw_p47 : lw_okq (⟨"CircleOfLeavesModel", "canBeGiven", "(II)Z"⟩, 30) := ⟨⟨by decide +kernel, by decide +kernel⟩, List.mem_of_getElem? (i := 699) (by decide +kernel), List.mem_of_getElem? (i := 884) (by decide +kernel), List.mem_of_getElem? (i := 885) (by decide +kernel)⟩
def lw_privs_3 : List (MethodName × Nat) := [(⟨"CircleOfLeaves$Article", "isReady", "()Z"⟩, 12), (⟨"CircleOfLeaves$Article", "putToPress", "([I)V"⟩, 12), (⟨"CircleOfLeaves", "lookAtReferences", "()V"⟩, 12), (⟨"CircleOfLeaves", "fateOf", "(LCircleOfLeaves$Headword;)LCircleOfLeaves$Fate;"⟩, 12), (⟨"CircleOfLeaves", "tellFacts", "()I"⟩, 12), (⟨"CircleOfLeaves", "addErratum", "(I)V"⟩, 12), (⟨"CircleOfLeaves", "tellPromises", "()I"⟩, 12), (⟨"CircleOfLeaves", "placeOf", "(I)I"⟩, 12), (⟨"CircleOfLeaves$Article", "state", "()I"⟩, 12), (⟨"CircleOfLeaves", "isWithin", "(II)Z"⟩, 12), (⟨"CircleOfLeavesModel", "goes", "(I)Z"⟩, 30), (⟨"CircleOfLeavesModel", "firstLetter", "(I)I"⟩, 30), (⟨"CircleOfLeavesModel", "takes", "(I)V"⟩, 30), (⟨"CircleOfLeavesModel", "isArticle", "(I)Z"⟩, 30), (⟨"CircleOfLeavesModel", "isContributor", "(I)Z"⟩, 30), (⟨"CircleOfLeavesModel", "canBeGiven", "(II)Z"⟩, 30)]
theorem lw_r3 : ∀ q ∈ lw_privs_3, lw_okq q := List.forall_mem_cons.mpr ⟨lw_p32, List.forall_mem_cons.mpr ⟨lw_p33, List.forall_mem_cons.mpr ⟨lw_p34, List.forall_mem_cons.mpr ⟨lw_p35, List.forall_mem_cons.mpr ⟨lw_p36, List.forall_mem_cons.mpr ⟨lw_p37, List.forall_mem_cons.mpr ⟨lw_p38, List.forall_mem_cons.mpr ⟨lw_p39, List.forall_mem_cons.mpr ⟨lw_p40, List.forall_mem_cons.mpr ⟨lw_p41, List.forall_mem_cons.mpr ⟨lw_p42, List.forall_mem_cons.mpr ⟨lw_p43, List.forall_mem_cons.mpr ⟨lw_p44, List.forall_mem_cons.mpr ⟨lw_p45, List.forall_mem_cons.mpr ⟨lw_p46, List.forall_mem_cons.mpr ⟨lw_p47, fun _ h => absurd h List.not_mem_nil⟩⟩⟩⟩⟩⟩⟩⟩⟩⟩⟩⟩⟩⟩⟩⟩
theorem lw_p48 : lw_okq (⟨"CircleOfLeavesModel", "volumeOf", "(I)I"⟩, 30) := ⟨⟨by decide +kernel, by decide +kernel⟩, List.mem_of_getElem? (i := 699) (by decide +kernel), List.mem_of_getElem? (i := 888) (by decide +kernel), List.mem_of_getElem? (i := 889) (by decide +kernel)⟩
theorem lw_p49 : lw_okq (⟨"CircleOfLeavesModel", "isBarred", "(II)Z"⟩, 30) := ⟨⟨by decide +kernel, by decide +kernel⟩, List.mem_of_getElem? (i := 699) (by decide +kernel), List.mem_of_getElem? (i := 892) (by decide +kernel), List.mem_of_getElem? (i := 893) (by decide +kernel)⟩
theorem lw_p50 : lw_okq (⟨"CircleOfLeavesModel", "refersTo", "(II)Z"⟩, 30) := ⟨⟨by decide +kernel, by decide +kernel⟩, List.mem_of_getElem? (i := 699) (by decide +kernel), List.mem_of_getElem? (i := 896) (by decide +kernel), List.mem_of_getElem? (i := 897) (by decide +kernel)⟩
theorem lw_p51 : lw_okq (⟨"CircleOfLeavesModel", "order", "(II)I"⟩, 30) := ⟨⟨by decide +kernel, by decide +kernel⟩, List.mem_of_getElem? (i := 699) (by decide +kernel), List.mem_of_getElem? (i := 900) (by decide +kernel), List.mem_of_getElem? (i := 901) (by decide +kernel)⟩
theorem lw_p52 : lw_okq (⟨"CircleOfLeavesModel", "next", "(II)I"⟩, 30) := ⟨⟨by decide +kernel, by decide +kernel⟩, List.mem_of_getElem? (i := 699) (by decide +kernel), List.mem_of_getElem? (i := 904) (by decide +kernel), List.mem_of_getElem? (i := 905) (by decide +kernel)⟩
theorem lw_p53 : lw_okq (⟨"CircleOfLeavesModel", "toWrite", "(I)I"⟩, 30) := ⟨⟨by decide +kernel, by decide +kernel⟩, List.mem_of_getElem? (i := 699) (by decide +kernel), List.mem_of_getElem? (i := 908) (by decide +kernel), List.mem_of_getElem? (i := 909) (by decide +kernel)⟩
theorem lw_p54 : lw_okq (⟨"CircleOfLeavesModel", "begins", "(II)V"⟩, 30) := ⟨⟨by decide +kernel, by decide +kernel⟩, List.mem_of_getElem? (i := 699) (by decide +kernel), List.mem_of_getElem? (i := 912) (by decide +kernel), List.mem_of_getElem? (i := 913) (by decide +kernel)⟩
theorem lw_p55 : lw_okq (⟨"CircleOfLeavesModel", "columns", "(I)I"⟩, 30) := ⟨⟨by decide +kernel, by decide +kernel⟩, List.mem_of_getElem? (i := 699) (by decide +kernel), List.mem_of_getElem? (i := 916) (by decide +kernel), List.mem_of_getElem? (i := 917) (by decide +kernel)⟩
theorem lw_p56 : lw_okq (⟨"CircleOfLeavesModel", "isAhead", "(II)Z"⟩, 30) := ⟨⟨by decide +kernel, by decide +kernel⟩, List.mem_of_getElem? (i := 699) (by decide +kernel), List.mem_of_getElem? (i := 920) (by decide +kernel), List.mem_of_getElem? (i := 921) (by decide +kernel)⟩
theorem lw_p57 : lw_okq (⟨"CircleOfLeavesModel", "first", "(I)I"⟩, 30) := ⟨⟨by decide +kernel, by decide +kernel⟩, List.mem_of_getElem? (i := 699) (by decide +kernel), List.mem_of_getElem? (i := 932) (by decide +kernel), List.mem_of_getElem? (i := 933) (by decide +kernel)⟩
theorem lw_p58 : lw_okq (⟨"CircleOfLeavesModel", "prints", "(II)I"⟩, 30) := ⟨⟨by decide +kernel, by decide +kernel⟩, List.mem_of_getElem? (i := 699) (by decide +kernel), List.mem_of_getElem? (i := 940) (by decide +kernel), List.mem_of_getElem? (i := 941) (by decide +kernel)⟩
theorem lw_p59 : lw_okq (⟨"CircleOfLeavesModel", "isPrinted", "(I)Z"⟩, 30) := ⟨⟨by decide +kernel, by decide +kernel⟩, List.mem_of_getElem? (i := 699) (by decide +kernel), List.mem_of_getElem? (i := 944) (by decide +kernel), List.mem_of_getElem? (i := 945) (by decide +kernel)⟩
theorem lw_p60 : lw_okq (⟨"CircleOfLeavesModel", "isPromise", "(I)Z"⟩, 30) := ⟨⟨by decide +kernel, by decide +kernel⟩, List.mem_of_getElem? (i := 699) (by decide +kernel), List.mem_of_getElem? (i := 948) (by decide +kernel), List.mem_of_getElem? (i := 949) (by decide +kernel)⟩
theorem lw_p61 : lw_okq (⟨"CircleOfLeavesModel", "isOpen", "(II)Z"⟩, 30) := ⟨⟨by decide +kernel, by decide +kernel⟩, List.mem_of_getElem? (i := 699) (by decide +kernel), List.mem_of_getElem? (i := 956) (by decide +kernel), List.mem_of_getElem? (i := 957) (by decide +kernel)⟩
theorem lw_p62 : lw_okq (⟨"CircleOfLeavesModel", "opens", "(Z)I"⟩, 30) := ⟨⟨by decide +kernel, by decide +kernel⟩, List.mem_of_getElem? (i := 699) (by decide +kernel), List.mem_of_getElem? (i := 984) (by decide +kernel), List.mem_of_getElem? (i := 985) (by decide +kernel)⟩
theorem lw_p63 : lw_okq (⟨"CircleOfLeavesModel", "contradicts", "(Z)I"⟩, 30) := ⟨⟨by decide +kernel, by decide +kernel⟩, List.mem_of_getElem? (i := 699) (by decide +kernel), List.mem_of_getElem? (i := 992) (by decide +kernel), List.mem_of_getElem? (i := 993) (by decide +kernel)⟩
def lw_privs_4 : List (MethodName × Nat) := [(⟨"CircleOfLeavesModel", "volumeOf", "(I)I"⟩, 30), (⟨"CircleOfLeavesModel", "isBarred", "(II)Z"⟩, 30), (⟨"CircleOfLeavesModel", "refersTo", "(II)Z"⟩, 30), (⟨"CircleOfLeavesModel", "order", "(II)I"⟩, 30), (⟨"CircleOfLeavesModel", "next", "(II)I"⟩, 30), (⟨"CircleOfLeavesModel", "toWrite", "(I)I"⟩, 30), (⟨"CircleOfLeavesModel", "begins", "(II)V"⟩, 30), (⟨"CircleOfLeavesModel", "columns", "(I)I"⟩, 30), (⟨"CircleOfLeavesModel", "isAhead", "(II)Z"⟩, 30), (⟨"CircleOfLeavesModel", "first", "(I)I"⟩, 30), (⟨"CircleOfLeavesModel", "prints", "(II)I"⟩, 30), (⟨"CircleOfLeavesModel", "isPrinted", "(I)Z"⟩, 30), (⟨"CircleOfLeavesModel", "isPromise", "(I)Z"⟩, 30), (⟨"CircleOfLeavesModel", "isOpen", "(II)Z"⟩, 30), (⟨"CircleOfLeavesModel", "opens", "(Z)I"⟩, 30), (⟨"CircleOfLeavesModel", "contradicts", "(Z)I"⟩, 30)]
theorem lw_r4 : ∀ q ∈ lw_privs_4, lw_okq q := List.forall_mem_cons.mpr ⟨lw_p48, List.forall_mem_cons.mpr ⟨lw_p49, List.forall_mem_cons.mpr ⟨lw_p50, List.forall_mem_cons.mpr ⟨lw_p51, List.forall_mem_cons.mpr ⟨lw_p52, List.forall_mem_cons.mpr ⟨lw_p53, List.forall_mem_cons.mpr ⟨lw_p54, List.forall_mem_cons.mpr ⟨lw_p55, List.forall_mem_cons.mpr ⟨lw_p56, List.forall_mem_cons.mpr ⟨lw_p57, List.forall_mem_cons.mpr ⟨lw_p58, List.forall_mem_cons.mpr ⟨lw_p59, List.forall_mem_cons.mpr ⟨lw_p60, List.forall_mem_cons.mpr ⟨lw_p61, List.forall_mem_cons.mpr ⟨lw_p62, List.forall_mem_cons.mpr ⟨lw_p63, fun _ h => absurd h List.not_mem_nil⟩⟩⟩⟩⟩⟩⟩⟩⟩⟩⟩⟩⟩⟩⟩⟩
def lw_privs : List (MethodName × Nat) := lw_privs_1 ++ (lw_privs_2 ++ (lw_privs_3 ++ (lw_privs_4)))
def lw_tbl : List Cond := k2_sels lw_privs ++ tables_1
theorem lw_privs_ok : ∀ q ∈ lw_privs, lw_okq q := by
  show ∀ q ∈ lw_privs_1 ++ (lw_privs_2 ++ (lw_privs_3 ++ (lw_privs_4))), lw_okq q
  exact List.forall_mem_append.mpr ⟨lw_r1, List.forall_mem_append.mpr ⟨lw_r2, List.forall_mem_append.mpr ⟨lw_r3, lw_r4⟩⟩⟩
-- ===== end of PART A; then your names; then what follows =====
end
section
/-! ===== BEGIN words of one list among another's, by their places ===== -/
theorem goodIn_r {big : List Cond} (ws : List Cond) (ps : List Nat) (hp : ws = ps.filterMap (fun i => big[i]?)) (h : ws.all goodWord = true) : GoodIn big ws := by
  intro w hw
  have h1 := List.all_eq_true.mp h w hw
  rw [hp] at hw
  obtain ⟨i, -, hi⟩ := List.mem_filterMap.mp hw
  have hm : w ∈ big := by first | exact List.mem_of_getElem? hi | exact List.getElem?_mem hi
  exact ⟨hm, good_of_word h1⟩
theorem goodIn_app {big a b : List Cond} (ha : GoodIn big a) (hb : GoodIn big b) : GoodIn big (a ++ b) := fun w h => (List.mem_append.mp h).elim (ha w) (hb w)
theorem goodIn_ca {big a b : List Cond} {c : Cond} (ha : GoodIn big (c :: a)) (hb : GoodIn big b) : GoodIn big (c :: (a ++ b)) := fun w h => (List.mem_cons.mp h).elim (fun e => ha w (List.mem_cons.mpr (Or.inl e))) (fun h => (List.mem_append.mp h).elim (fun h => ha w (List.mem_cons.mpr (Or.inr h))) (hb w))
theorem goodIn_sub {big ws : List Cond} (hm : ∀ w ∈ ws, w ∈ big) (h : ws.all goodWord = true) : GoodIn big ws := fun w hw => ⟨hm w hw, good_of_word (List.all_eq_true.mp h w hw)⟩
/-! ===== END ===== -/

/-! ===== BEGIN exceptions that leave a method, and their catching by the caller (launches without stack traces) ===== -/
section VXA
/-! The laws vx_back, vx_callV, vx_callS, vx_callSW, vx_throw0, vx_throwS follow proofs of the library, with one case more: JvmDerived/Free/Laws.lean (Back.of_free), Shelf42/LK1.lean (callV, callS), Shelf/KitTraced.lean (throwNew0V, throwNewS). -/
/-- where a method has thrown q: the class by its name, the cell, what was written, the world -/
def vx_T (XC : String → State → State → Prop) (st : State) (q : Addr) (t : State) (mc ms : Nat) (free : Addr → Prop) : Prop :=
  ∃ (E : String) (ce : Cell) (L : List Loc), XC E st t ∧ t.heap[q]? = some ce ∧ ce.vm = .none ∧ st.vm.findClass E = some ce.cls ∧ st.WarmedH t.vm ∧ st.sameButNew ({ t with vm := st.vm } : State) L mc ms ∧ ∀ z ∈ L, free z.base
def vx_Q (Qc : Array Value → State → Outcome → State → Prop) (XC : String → State → State → Prop) (mc ms : Nat) (free : Addr → Prop) : Array Value → State → Outcome → State → Prop := fun a st o t =>
  (Qc a st o t ∧ ∃ L, FrameEnd st o t L mc ms ∧ ∀ q ∈ L, free q.base) ∨ ∃ q, o = .threw q ∧ vx_T XC st q t mc ms free
/-- a callee that returns or throws -/
def vx_Met (l : Launch) (y : MethodName) (ws : List Cond) (rm : Room) (Pc : Array Value → State → Prop) (Qc : Array Value → State → Outcome → State → Prop) (XC : String → State → State → Prop) (mc ms : Nat) (free : Addr → Prop) : Prop :=
  MetFree l y (headSpec ws rm) Pc (fun _ _ _ _ _ => True) (vx_Q Qc XC mc ms free)
def vx_Post (XC : String → State → State → Prop) (mc ms : Nat) (free : Addr → Prop) : Pt → Array Value → Addr → Pt → Prop := fun A a q B =>
  ∃ (g : JFrame) (mk : MethodId) (t : State) (L : List Loc) (E : String) (ce : Cell), B.U.heap = t.heap ∧ B.U.vm = t.vm ∧ XC E (A.U.calling g mk a) t ∧ t.heap[q]? = some ce ∧ ce.vm = .none ∧ A.U.vm.findClass E = some ce.cls ∧ B.locs = A.locs ++ L ∧ (∀ z ∈ L, free z.base) ∧ B.cells = A.cells + mc ∧ B.slots = A.slots + ms
def vx_Back (l : Launch) (R : Room) (p : Program) (e : Env) (below : List Frame) (s : State) (sargs : Array Value) (y : MethodName) (len W9 : Nat)
    (Pre : Pt → Array Value → Prop) (Post : Pt → Array Value → Option Value → Pt → Prop) (PostX : Pt → Array Value → Addr → Pt → Prop) : Prop :=
  ∀ (m : MethodId) (meth : Method) (c : Code) (A : Pt) (g : JFrame) (ig : Instr) (mk : MethodId) (a : Array Value),
    Stand p l e R s m sargs below meth c A.U A.locs A.cells A.slots → g.method = m → g.locals.size = c.maxLocals → decode c.code g.pc = .ok (ig, len) →
    2 * g.monitorRoom + (g.stack.map fun v => v.category).sum ≤ W9 → A.U.methodNamed? y = some mk → Pre A a →
    (∃ (v : Option Value) (B : Pt), Stand p l e R s m sargs below meth c B.U B.locs B.cells B.slots ∧ Post A a v B ∧
      Steps p.tables e below (doInvoke e (A.U.setTop g) [] mk a).1 (B.U.setTop { g with pc := g.pc + len, stack := v.toList ++ g.stack })) ∨
    (∃ (q : Addr) (B : Pt), Stand p l e R s m sargs below meth c B.U B.locs B.cells B.slots ∧ PostX A a q B ∧
      Steps p.tables e below (doInvoke e (A.U.setTop g) [] mk a).1 ((B.U.setTop g).pushFrame (.throwing q)))
section Payer
variable {l : Launch} {R : Room} {p : Program} {e : Env} {below : List Frame} {s : State} {sargs : Array Value} {y : MethodName} {len W9 : Nat}
theorem vx_back {ws : List Cond} {rm : Room} {Pc : Array Value → State → Prop} {Qc : Array Value → State → Outcome → State → Prop} {XC : String → State → State → Prop} {mc ms : Nat} {free : Addr → Prop} {bytes : ByteArray} {maxL : Nat} {ret : Option FieldType}
    (hM : vx_Met l y ws rm Pc Qc XC mc ms free) (hblind : FrameBlind Pc) (hrc : rm.cells = mc) (hrs : rm.slots = ms)
    (hframes : rm.frames + 1 ≤ R.frames) (hlocals : W9 + (maxL + 11) + rm.locals ≤ R.locals)
    (hws : ∀ w ∈ ws, ∀ a' U, s.WarmedH U.vm → w.before a' U = true) (hcode : Cond.code y bytes maxL ret ∈ ws) (hinit : ∀ a' U, s.WarmedH U.vm → (Cond.initialized y.cls).before a' U = true) :
    vx_Back l R p e below s sargs y len W9 (PreOf R mc ms Pc) (PostOf Qc mc ms free) (vx_Post XC mc ms free) := by
  intro m meth c A g ig mk a X hg hsize hdg hW hn hp
  have h1 : (headSpec ws rm).pre.before a A.U = true := atoms_intro fun w hw => hws w hw _ _ X.warmed
  have h2 : (Cond.code y bytes maxL ret).before a A.U = true := hws _ hcode _ _ X.warmed
  have h3 : (Cond.initialized y.cls).before a A.U = true := hinit _ _ X.warmed
  have h4 : A.cells + (headSpec ws rm).room.cells ≤ R.cells := by rw [show (headSpec ws rm).room.cells = mc from hrc]; exact hp.1
  have h5 : A.slots + (headSpec ws rm).room.slots ≤ R.slots := by rw [show (headSpec ws rm).room.slots = ms from hrs]; exact hp.2.1
  have hPc : Pc a (A.U.calling g mk a) := hblind _ _ _ _ hp.2.2
  obtain ⟨U, Ls, c0, s0⟩ := A
  dsimp only [Pt.U, Pt.locs, Pt.cells, Pt.slots] at h1 h2 h3 h4 h5 X hn hPc ⊢
  obtain ⟨methY, cY, hmY, hcY, -, hlY, -, -, -, -⟩ := Cond.code_spec hn h2
  obtain ⟨kY, hkY, -⟩ := className_of_methodNamed hn
  have hinitY : kY.init = .initialized := Cond.initialized_spec (findClass_of_methodNamed hn) hkY h3
  have h : At U g.method c below := by rw [hg]; exact X.here
  have hlocals9 : W9 + (maxL + 11) + (headSpec ws rm).room.locals ≤ R.locals := hlocals
  have happ : (headSpec ws rm).appliesLoose y e.platform (U.calling g mk a) = true :=
    Spec.appliesLoose_calling (g := g) h hdg hn hkY hinitY
      (X.room_calling (g := g) (R' := (headSpec ws rm).room) hsize hmY hcY hframes (by rw [hlY]; omega) h4 h5) h1
  obtain ⟨mid, hmid⟩ := h.above
  have hfr : (U.setTop g).frames = (.java g :: mid) ++ below := by rw [State.frames_setTop' g h.top, hmid]; rfl
  obtain ⟨o, s₂, hsteps, -, hend, hq⟩ := Steps.callFree hM p X.admits X.cas X.clock (acts := []) hfr happ hPc trivial
  have hq' : vx_Q Qc XC mc ms free a (U.calling g mk a) o s₂ := hq
  rw [State.frames_setTop' g h.top] at hend
  obtain ⟨g₀, hg0⟩ := Option.isSome_iff_exists.mp h.top
  obtain ⟨r, hr⟩ := State.topJava?_eq_some.mp hg0
  have hr' : (({ U with heap := s₂.heap, slotsUsed := s₂.slotsUsed } : State).setVm s₂.vm).frames = .java g₀ :: r := hr
  rcases hq' with ⟨hqc, L, hfe, hL⟩ | ⟨q, rfl, E, ce, L, hx, hce, hcv, hcl, hW₂, hsm, hL⟩
  · obtain ⟨⟨v, rfl⟩, hW₂, e2, q2, q3, q4, q5, q6⟩ := id hfe
    have e3 : s₂ = ({ (U.calling g mk a).setFrames s₂.frames with heap := s₂.heap, slotsUsed := s₂.slotsUsed } : State).setVm s₂.vm := by
      have : s₂ = ({ s₂ with vm := (U.calling g mk a).vm } : State).setVm s₂.vm := rfl
      rw [e2] at this
      exact this
    obtain ⟨c₂, i₂, len₂, hc₂, hd₂, hf₂⟩ := hend
    have hW' : U.WarmedH s₂.vm := hW₂
    have hcc : c₂ = c := by
      have h1 : s₂.code? g.method = U.code? g.method := by
        rw [State.code?_eq, State.code?_eq, hW'.alike.method?]
      exact Option.some.inj (hc₂.symm.trans (h1.trans h.code))
    subst hcc
    have hlen : len₂ = len := by rw [hdg] at hd₂; cases hd₂; rfl
    subst hlen
    have hs₂ : s₂ = (({ U with heap := s₂.heap, slotsUsed := s₂.slotsUsed } : State).setVm s₂.vm).setTop { g with pc := g.pc + len₂, stack := v.toList ++ g.stack } := by
      refine e3.trans ?_
      rw [hf₂, State.calling_eq h.top, State.setFrames_setFrames, State.setTop_of_frames _ hr', hr]
      rfl
    have hsame : U.sameButNew ({ U with heap := s₂.heap, slotsUsed := s₂.slotsUsed } : State) L mc ms := by
      refine ⟨?_, q2, q3, q4, q5, q6⟩
      obtain ⟨t, ht, -⟩ := State.frames_cons hr
      show ({ U with heap := s₂.heap, slotsUsed := s₂.slotsUsed } : State) = { U.setFrames U.frames with heap := s₂.heap, slotsUsed := s₂.slotsUsed }
      rw [State.setFrames_self ht]
    subst hg
    refine Or.inl ⟨v, ⟨(({ U with heap := s₂.heap, slotsUsed := s₂.slotsUsed } : State).setVm s₂.vm), Ls ++ L, c0 + mc, s0 + ms⟩,
      ⟨X.admits, X.cas, X.clock, X.frames, X.room, X.hears, X.method, X.code, (X.here.setHeapUsed s₂.heap s₂.slotsUsed).setVm hW'.alike, X.tail, State.WarmedH.trans X.warmed hW', X.limits, X.bytes, X.same.trans (hsame.setVm s.vm)⟩,
      ⟨g, mk, s₂, L, rfl, rfl, hqc, rfl, hL, rfl, rfl⟩, ?_⟩
    show Steps p.tables e below _ ((({ U with heap := s₂.heap, slotsUsed := s₂.slotsUsed } : State).setVm s₂.vm).setTop { g with pc := g.pc + len₂, stack := v.toList ++ g.stack })
    rw [← hs₂]
    exact hsteps
  · obtain ⟨e2, q2, q3, q4, q5, q6⟩ := id hsm
    have e3 : s₂ = ({ (U.calling g mk a).setFrames s₂.frames with heap := s₂.heap, slotsUsed := s₂.slotsUsed } : State).setVm s₂.vm := by
      have : s₂ = ({ s₂ with vm := (U.calling g mk a).vm } : State).setVm s₂.vm := rfl
      rw [e2] at this
      exact this
    have hf₂ : s₂.frames = .throwing q :: .java g :: U.frames.tail := hend
    have hW' : U.WarmedH s₂.vm := hW₂
    have hs₂ : s₂ = ((({ U with heap := s₂.heap, slotsUsed := s₂.slotsUsed } : State).setVm s₂.vm).setTop g).pushFrame (.throwing q) := by
      refine e3.trans ?_
      rw [hf₂, State.calling_eq h.top, State.setFrames_setFrames, State.pushFrame, State.frames_setTop _ hr', State.setTop_of_frames _ hr', State.setFrames_setFrames, hr]
      rfl
    have hsame : U.sameButNew ({ U with heap := s₂.heap, slotsUsed := s₂.slotsUsed } : State) L mc ms := by
      refine ⟨?_, q2, q3, q4, q5, q6⟩
      obtain ⟨t, ht, -⟩ := State.frames_cons hr
      show ({ U with heap := s₂.heap, slotsUsed := s₂.slotsUsed } : State) = { U.setFrames U.frames with heap := s₂.heap, slotsUsed := s₂.slotsUsed }
      rw [State.setFrames_self ht]
    subst hg
    refine Or.inr ⟨q, ⟨(({ U with heap := s₂.heap, slotsUsed := s₂.slotsUsed } : State).setVm s₂.vm), Ls ++ L, c0 + mc, s0 + ms⟩,
      ⟨X.admits, X.cas, X.clock, X.frames, X.room, X.hears, X.method, X.code, (X.here.setHeapUsed s₂.heap s₂.slotsUsed).setVm hW'.alike, X.tail, State.WarmedH.trans X.warmed hW', X.limits, X.bytes, X.same.trans (hsame.setVm s.vm)⟩,
      ⟨g, mk, s₂, L, E, ce, rfl, rfl, hx, hce, hcv, hcl, rfl, hL, rfl, rfl⟩, ?_⟩
    show Steps p.tables e below _ (((({ U with heap := s₂.heap, slotsUsed := s₂.slotsUsed } : State).setVm s₂.vm).setTop g).pushFrame (.throwing q))
    rw [← hs₂]
    exact hsteps
end Payer
section Calls
variable {p : Program} {l : Launch} {e : Env} {R : Room} {s : State} {m : MethodId} {args : Array Value} {below : List Frame} {meth : Method} {c : Code} {T : State} {locs : List Loc} {cells slots : Nat}
theorem vx_callV (X : Stand p l e R s m args below meth c T locs cells slots) (hexec : p.tables.exec = Jvm.exec) {own C : String} {index : Nat} {y : MethodName} {bytes : ByteArray} {maxL : Nat} {ret : Option FieldType}
    (hown : s.vm.findClass own = some m.cls) (hlink : (Cond.methodLink own index y).before args s = true) (hinst : (Cond.instanceMethod y).before args s = true) (hsel : (Cond.selects C y y).before args s = true)
    (hcode : (Cond.code y bytes maxL ret).before args s = true) (hy : y.cls ≠ "java/lang/invoke/MethodHandle" ∧ y.cls ≠ "java/lang/invoke/VarHandle")
    {W9 : Nat} {Pre : Pt → Array Value → Prop} {Post : Pt → Array Value → Option Value → Pt → Prop} {PostX : Pt → Array Value → Addr → Pt → Prop} (hK : vx_Back l R p e below s args y 3 W9 Pre Post PostX)
    {b : Addr} {cellB : Cell} (hcell : T.heap[b]? = some cellB) (hobj : cellB.vm.isStatics = false) (hcls : s.vm.findClass C = some cellB.cls)
    {g : JFrame} (hg : g.method = m) (hsize : g.locals.size = c.maxLocals) {argsL rest : List Value} (hlen : ∀ sig, parseMethodDescriptor y.desc = some sig → argsL.length = sig.parameters.length)
    (hstack : g.stack = argsL.reverse ++ .ref b :: rest) (hW : 2 * g.monitorRoom + (rest.map fun v => v.category).sum ≤ W9) (hdg : decode c.code g.pc = .ok (.invokevirtual index, 3))
    (hpre : ∀ vm₁, s.WarmedH vm₁ → Pre ⟨T.setVm vm₁, locs, cells, slots⟩ (Value.ref b :: argsL).toArray) :
    (∃ (v : Option Value) (vm₁ : Vm) (B : Pt), s.WarmedH vm₁ ∧ Stand p l e R s m args below meth c B.U B.locs B.cells B.slots ∧ Post ⟨T.setVm vm₁, locs, cells, slots⟩ (Value.ref b :: argsL).toArray v B ∧
      ∀ target, Steps p.tables e below (B.U.setTop { g with pc := g.pc + 3, stack := v.toList ++ rest }) target → Steps p.tables e below (T.setTop g) target) ∨
    (∃ (q : Addr) (vm₁ : Vm) (B : Pt), s.WarmedH vm₁ ∧ Stand p l e R s m args below meth c B.U B.locs B.cells B.slots ∧ PostX ⟨T.setVm vm₁, locs, cells, slots⟩ (Value.ref b :: argsL).toArray q B ∧
      Steps p.tables e below (T.setTop g) ((B.U.setTop { g with stack := rest }).pushFrame (.throwing q))) := by
  obtain ⟨mk, methM, hnamed, hmethM, hstM, habM⟩ := Cond.instanceMethod_spec hinst
  obtain ⟨methM', cM, hmethM', -, -, -, -, -, -, hsigM⟩ := Cond.code_spec hnamed hcode
  cases hmethM.symm.trans hmethM'
  obtain ⟨c2, r2, m2, q1, q2, q3, q4, kP, hkP, hkPi⟩ := Cond.selects_spec hsel
  cases hcls.symm.trans q1
  cases (State.methodFound?_of_named hnamed hy).symm.trans q2
  cases hnamed.symm.trans q3
  have hselP : selectMethod e.platform s.vm cellB.cls mk = .method mk := by rw [Launch.admits_selectMethod X.admits]; exact q4
  obtain ⟨vm₁, X₁, hstep₁⟩ := X.invokevirtual hexec hown hlink hnamed hmethM hstM hkP hkPi hy (a := b) (cell := cellB) hcell
    (fun z h => by rw [h] at hobj; cases hobj) hselP hmethM habM hkP hkPi (g := g) hg (argsL := argsL) (rest := rest) (hlen _ hsigM) hstack hdg
  rcases hK m meth c ⟨T.setVm vm₁, locs, cells, slots⟩ { g with stack := rest } (.invokevirtual index) mk (Value.ref b :: argsL).toArray X₁ hg hsize hdg hW (X₁.named hnamed) (hpre vm₁ X₁.warmed) with ⟨v, B, X', hpost, hsteps⟩ | ⟨q, B, X', hpost, hsteps⟩
  · exact Or.inl ⟨v, vm₁, B, X₁.warmed, X', hpost, fun target h => hstep₁ _ fun acts => by rw [doInvoke_state]; exact hsteps.trans h⟩
  · exact Or.inr ⟨q, vm₁, B, X₁.warmed, X', hpost, hstep₁ _ fun acts => by rw [doInvoke_state]; exact hsteps⟩
theorem vx_callS (X : Stand p l e R s m args below meth c T locs cells slots) (hexec : p.tables.exec = Jvm.exec) {own : String} {index : Nat} {y : MethodName} {bytes : ByteArray} {maxL : Nat} {ret : Option FieldType}
    (hown : s.vm.findClass own = some m.cls) (hlink : (Cond.methodLink own index y).before args s = true) (hstat : (Cond.static y).before args s = true) (hinit : (Cond.initialized y.cls).before args s = true)
    (hcode : (Cond.code y bytes maxL ret).before args s = true) (hy : y.cls ≠ "java/lang/invoke/MethodHandle" ∧ y.cls ≠ "java/lang/invoke/VarHandle")
    {W9 : Nat} {Pre : Pt → Array Value → Prop} {Post : Pt → Array Value → Option Value → Pt → Prop} {PostX : Pt → Array Value → Addr → Pt → Prop} (hK : vx_Back l R p e below s args y 3 W9 Pre Post PostX)
    {g : JFrame} (hg : g.method = m) (hsize : g.locals.size = c.maxLocals) {argsL rest : List Value} (hlen : ∀ sig, parseMethodDescriptor y.desc = some sig → argsL.length = sig.parameters.length)
    (hstack : g.stack = argsL.reverse ++ rest) (hW : 2 * g.monitorRoom + (rest.map fun v => v.category).sum ≤ W9) (hdg : decode c.code g.pc = .ok (.invokestatic index, 3))
    (hpre : ∀ vm₁, s.WarmedH vm₁ → Pre ⟨T.setVm vm₁, locs, cells, slots⟩ argsL.toArray) :
    (∃ (v : Option Value) (vm₁ : Vm) (B : Pt), s.WarmedH vm₁ ∧ Stand p l e R s m args below meth c B.U B.locs B.cells B.slots ∧ Post ⟨T.setVm vm₁, locs, cells, slots⟩ argsL.toArray v B ∧
      ∀ target, Steps p.tables e below (B.U.setTop { g with pc := g.pc + 3, stack := v.toList ++ rest }) target → Steps p.tables e below (T.setTop g) target) ∨
    (∃ (q : Addr) (vm₁ : Vm) (B : Pt), s.WarmedH vm₁ ∧ Stand p l e R s m args below meth c B.U B.locs B.cells B.slots ∧ PostX ⟨T.setVm vm₁, locs, cells, slots⟩ argsL.toArray q B ∧
      Steps p.tables e below (T.setTop g) ((B.U.setTop { g with stack := rest }).pushFrame (.throwing q))) := by
  obtain ⟨mk, hnamed⟩ := Cond.code_named hcode
  obtain ⟨methM, cM, hmethM, -, -, -, -, -, -, hsigM⟩ := Cond.code_spec hnamed hcode
  have hstatic : methM.isStatic = true := Cond.static_spec hnamed hmethM hstat
  obtain ⟨kP, hkP, -⟩ := className_of_methodNamed hnamed
  have hinitP : kP.init = .initialized := Cond.initialized_spec (findClass_of_methodNamed hnamed) hkP hinit
  obtain ⟨vm₁, X₁, hstep₁⟩ := X.invokestatic hexec hown hlink hnamed hmethM hstatic hkP hinitP hy (g := g) hg (argsL := argsL) (rest := rest) (hlen _ hsigM) hstack hdg
  rcases hK m meth c ⟨T.setVm vm₁, locs, cells, slots⟩ { g with stack := rest } (.invokestatic index) mk argsL.toArray X₁ hg hsize hdg hW (X₁.named hnamed) (hpre vm₁ X₁.warmed) with ⟨v, B, X', hpost, hsteps⟩ | ⟨q, B, X', hpost, hsteps⟩
  · exact Or.inl ⟨v, vm₁, B, X₁.warmed, X', hpost, fun target h => hstep₁ _ fun acts => by rw [doInvoke_state]; exact hsteps.trans h⟩
  · exact Or.inr ⟨q, vm₁, B, X₁.warmed, X', hpost, hstep₁ _ fun acts => by rw [doInvoke_state]; exact hsteps⟩
end Calls
theorem vx_cls {s : State} {T : State} {vm₁ : Vm} {E : String} {k : ClassId} (hW : s.WarmedH vm₁) (h : (T.setVm vm₁).vm.findClass E = some k) : s.vm.findClass E = some k := by
  have h1 : vm₁.findClass E = some k := h
  rw [hW.alike.findClass] at h1
  exact h1
/-- the method's frame g, with q thrown over it -/
def vx_W (p : Program) (l : Launch) (e : Env) (R : Room) (s : State) (m : MethodId) (args : Array Value) (below : List Frame) (meth : Method) (c : Code) (H : Heap) (locs : List Loc) (cells slots : Nat) (Q : State → Prop) (g : JFrame) (q : Addr) : Prop :=
  ∀ T : State, T.heap = H → Stand p l e R s m args below meth c T locs cells slots → ∃ t, Steps p.tables e below ((T.setTop g).pushFrame (.throwing q)) t ∧ Q t
def vx_Run (p : Program) (l : Launch) (e : Env) (R : Room) (s : State) (m : MethodId) (args : Array Value) (below : List Frame) (meth : Method) (c : Code) (H : Heap) (locs : List Loc) (cells slots mc ms : Nat) (g : JFrame) (rest : List Value) (Qa : State → Outcome → State → Prop) (XC : String → State → State → Prop) (free : Addr → Prop) : Prop :=
  ∀ T : State, T.heap = H → Stand p l e R s m args below meth c T locs cells slots →
    (∃ (v : Option Value) (st₀ t T' : State) (L : List Loc), st₀.heap = H ∧ Stand p l e R s m args below meth c T' (locs ++ L) (cells + mc) (slots + ms) ∧ (∀ q ∈ L, free q.base) ∧ T'.heap = t.heap ∧ T'.vm = t.vm ∧ Qa st₀ (.returned v) t ∧
      Goes p e below T g T' { g with pc := g.pc + 3, stack := v.toList ++ rest }) ∨
    (∃ (q : Addr) (st₀ t T' : State) (L : List Loc) (E : String) (ce : Cell), st₀.heap = H ∧ Stand p l e R s m args below meth c T' (locs ++ L) (cells + mc) (slots + ms) ∧ (∀ z ∈ L, free z.base) ∧ T'.heap = t.heap ∧ T'.vm = t.vm ∧ XC E st₀ t ∧ t.heap[q]? = some ce ∧ ce.vm = .none ∧ s.vm.findClass E = some ce.cls ∧
      Steps p.tables e below (T.setTop g) ((T'.setTop { g with stack := rest }).pushFrame (.throwing q)))
def vx_X {S : Type} (px : S → Prop) (B : String → S → State → Prop) (A : Nat → Prop) : String → State → State → Prop := fun E st t => ∃ u : S, px u ∧ B E u t ∧ va_F A st t
section Runs
variable {p : Program} {l : Launch} {e : Env} {R : Room} {s : State} {m : MethodId} {args : Array Value} {below : List Frame} {meth : Method} {c : Code} {H : Heap} {locs : List Loc} {cells slots : Nat}
variable {y : MethodName} {bytes cc : ByteArray} {maxL nL mc ms n index : Nat} {ret : Option FieldType} {ws : List Cond} {rm : Room} {Pc : Array Value → State → Prop} {Qc : Array Value → State → Outcome → State → Prop} {XC : String → State → State → Prop} {free : Addr → Prop} {Ts : List Cond} {own C : String} {b : Addr} {As rest : List Value} {g : JFrame}
theorem vx_callBack (cb : CallB R s args own index y bytes maxL ret ws rm mc ms n) (hM : vx_Met l y ws rm Pc Qc XC mc ms free) (hbl : FrameBlind Pc) : vx_Back l R p e below s args y 3 8 (PreOf R mc ms Pc) (PostOf Qc mc ms free) (vx_Post XC mc ms free) := by
  obtain ⟨hrc, hrs, hfr, hlo, hws, hcw, -, hini, -⟩ := cb
  exact vx_back (bytes := bytes) (maxL := maxL) (ret := ret) hM hbl hrc hrs hfr hlo hws hcw (fun a' U hW => word_at hW (Or.inl (by first | rfl | simp [Cond.onTables, Cond.keeps, Cond.steady])) hini)
theorem vx_runV (S : CallFix p m c cc nL s args Ts own) (hM : vx_Met l y ws rm Pc Qc XC mc ms free) (cw : CallW R s args own C index y bytes maxL ret ws rm mc ms n) (hp : PreV s H C b Pc As)
    (hg : g.method = m) (hn : As.length = n) (hsize : g.locals.size = nL) (hstack : g.stack = As.reverse ++ .ref b :: rest) (hW : 2 * g.monitorRoom + (rest.map fun v => v.category).sum ≤ 8) (hdg : decode cc g.pc = .ok (.invokevirtual index, 3)) (hf : cells + mc ≤ R.cells ∧ slots + ms ≤ R.slots) :
    vx_Run p l e R s m args below meth c H locs cells slots mc ms g rest (Qc (Value.ref b :: As).toArray) XC free := by
  have hK : vx_Back l R p e below s args y 3 8 (PreOf R mc ms Pc) (PostOf Qc mc ms free) (vx_Post XC mc ms free) := vx_callBack cw.1 hM hp.1
  obtain ⟨⟨-, -, -, -, -, -, hcode, -, hy, hlen, hl⟩, hin, hse⟩ := cw
  obtain ⟨hx, hb, hml, ho, -⟩ := S
  obtain ⟨-, ⟨cellB, hcB, hoB, hclB⟩, hPc⟩ := hp
  intro T hT X
  rcases vx_callV X hx (C := C) (bytes := bytes) (maxL := maxL) (ret := ret) ho hl hin hse hcode hy hK (by rw [hT]; exact hcB) hoB hclB hg (hsize.trans hml.symm) (argsL := As) (rest := rest) (fun sig h => hn.trans (hlen sig h)) hstack hW (by rw [hb]; exact hdg)
    (fun vm₁ hW₁ => ⟨hf.1, hf.2, hPc (T.setVm vm₁) hT hW₁⟩) with ⟨v, vm₁, ⟨U', l2, c2, s2⟩, hW₁, X', ⟨g', mk, t, L, e1, e2, hq, h1, hL, h2, h3⟩, st⟩ | ⟨q, vm₁, ⟨U', l2, c2, s2⟩, hW₁, X', ⟨g', mk, t, L, E, ce, e1, e2, hq, hce, hcv, hcl, h1, hL, h2, h3⟩, st⟩
  · dsimp only [Pt.U, Pt.locs, Pt.cells, Pt.slots] at X' e1 e2 h1 h2 h3 st
    subst h1; subst h2; subst h3
    exact Or.inl ⟨v, (T.setVm vm₁).calling g' mk (Value.ref b :: As).toArray, t, U', L, hT, X', hL, e1, e2, hq, st⟩
  · dsimp only [Pt.U, Pt.locs, Pt.cells, Pt.slots] at X' e1 e2 h1 h2 h3 st hcl
    subst h1; subst h2; subst h3
    exact Or.inr ⟨q, (T.setVm vm₁).calling g' mk (Value.ref b :: As).toArray, t, U', L, E, ce, hT, X', hL, e1, e2, hq, hce, hcv, vx_cls hW₁ hcl, st⟩
theorem vx_runS (S : CallFix p m c cc nL s args Ts own) (hM : vx_Met l y ws rm Pc Qc XC mc ms free) (cw : CallB R s args own index y bytes maxL ret ws rm mc ms n ∧ (Cond.static y).before args s = true) (hp : PreS s H Pc As)
    (hg : g.method = m) (hn : As.length = n) (hsize : g.locals.size = nL) (hstack : g.stack = As.reverse ++ rest) (hW : 2 * g.monitorRoom + (rest.map fun v => v.category).sum ≤ 8) (hdg : decode cc g.pc = .ok (.invokestatic index, 3)) (hf : cells + mc ≤ R.cells ∧ slots + ms ≤ R.slots) :
    vx_Run p l e R s m args below meth c H locs cells slots mc ms g rest (Qc As.toArray) XC free := by
  have hK : vx_Back l R p e below s args y 3 8 (PreOf R mc ms Pc) (PostOf Qc mc ms free) (vx_Post XC mc ms free) := vx_callBack cw.1 hM hp.1
  obtain ⟨⟨-, -, -, -, -, -, hcode, hini, hy, hlen, hl⟩, hstt⟩ := cw
  obtain ⟨hx, hb, hml, ho, -⟩ := S
  intro T hT X
  rcases vx_callS X hx (bytes := bytes) (maxL := maxL) (ret := ret) ho hl hstt hini hcode hy hK hg (hsize.trans hml.symm) (argsL := As) (rest := rest) (fun sig h => hn.trans (hlen sig h)) hstack hW (by rw [hb]; exact hdg)
    (fun vm₁ hW₁ => ⟨hf.1, hf.2, hp.2 (T.setVm vm₁) hT hW₁⟩) with ⟨v, vm₁, ⟨U', l2, c2, s2⟩, hW₁, X', ⟨g', mk, t, L, e1, e2, hq, h1, hL, h2, h3⟩, st⟩ | ⟨q, vm₁, ⟨U', l2, c2, s2⟩, hW₁, X', ⟨g', mk, t, L, E, ce, e1, e2, hq, hce, hcv, hcl, h1, hL, h2, h3⟩, st⟩
  · dsimp only [Pt.U, Pt.locs, Pt.cells, Pt.slots] at X' e1 e2 h1 h2 h3 st
    subst h1; subst h2; subst h3
    exact Or.inl ⟨v, (T.setVm vm₁).calling g' mk As.toArray, t, U', L, hT, X', hL, e1, e2, hq, st⟩
  · dsimp only [Pt.U, Pt.locs, Pt.cells, Pt.slots] at X' e1 e2 h1 h2 h3 st hcl
    subst h1; subst h2; subst h3
    exact Or.inr ⟨q, (T.setVm vm₁).calling g' mk As.toArray, t, U', L, E, ce, hT, X', hL, e1, e2, hq, hce, hcv, vx_cls hW₁ hcl, st⟩
end Runs
section Rows
variable {p : Program} {l : Launch} {e : Env} {R : Room} {s : State} {m : MethodId} {args : Array Value} {below : List Frame} {meth : Method} {c : Code} {H : Heap} {locs : List Loc} {cells slots : Nat} {Q : State → Prop}
variable {mc ms : Nat} {free : Addr → Prop} {A0 A1 : Nat → Prop} {H0 : Heap} {a : Array Value} {pc : Nat} {ls : Array Slot} {st0 rest : List Value}
theorem vx_keep {st₀ t T' : State} {L : List Loc} (h0 : st₀.heap = H) (e1 : T'.heap = t.heap) (hS : va_S A0 H0 H locs) (hA : ∀ q, q < H.size → A1 q → A0 q) (hf : ∀ q, free q → A0 q) (hL : ∀ q ∈ L, free q.base) (hF : va_F A1 st₀ t) :
    H.size ≤ T'.heap.size ∧ (∀ q : Nat, q < H.size → ¬ A1 q → T'.heap[q]? = H[q]?) ∧ va_S A0 H0 T'.heap (locs ++ L) := by
  obtain ⟨hz, hk⟩ := hF
  rw [h0] at hz hk
  exact ⟨by rw [e1]; exact hz, fun q h1 h2 => by rw [e1]; exact hk q h1 h2,
    ⟨Nat.le_trans hS.1 (by rw [e1]; exact hz), fun q h1 h2 => by rw [e1, hk q (Nat.lt_of_lt_of_le h1 hS.1) (fun z => h2 (hA q (Nat.lt_of_lt_of_le h1 hS.1) z))]; exact hS.2.1 q h1 h2, fun q hq => by
      rcases List.mem_append.mp hq with h | h
      · exact hS.2.2 q h
      · exact hf _ (hL q h)⟩⟩
theorem vx_calli {S SX : Type} {post : Int32 → S → Prop} {px : SX → Prop} {B : S → State → Prop} {BX : String → SX → State → Prop} {AX : Nat → Prop} (hr : vx_Run p l e R s m args below meth c H locs cells slots mc ms (F0 m pc ls st0) rest (va_Qi post B A1 a) (vx_X px BX AX) free) (hS : va_S A0 H0 H locs) (hA : ∀ q, q < H.size → A1 q → A0 q) (hf : ∀ q, free q → A0 q) (hAX : ∀ q, q < H.size → AX q → A0 q)
    (kx : ∀ (E : String) (ce : Cell) (q9 : Addr) (u : SX) (t : State) (H1 : Heap) (locs1 : List Loc), t.heap = H1 → s.vm.Alike t.vm → px u → BX E u t → H.size ≤ H1.size → (∀ q : Nat, q < H.size → ¬ AX q → H1[q]? = H[q]?) → va_S A0 H0 H1 locs1 → H1[q9]? = some ce → ce.vm = .none → s.vm.findClass E = some ce.cls → vx_W p l e R s m args below meth c H1 locs1 (cells + mc) (slots + ms) Q (F0 m pc ls rest) q9)
    (kk : ∀ (r : Int32) (u : S) (t : State) (H1 : Heap) (locs1 : List Loc), t.heap = H1 → s.vm.Alike t.vm → post r u → B u t → H.size ≤ H1.size → (∀ q : Nat, q < H.size → ¬ A1 q → H1[q]? = H[q]?) → va_S A0 H0 H1 locs1 → W p l e R s m args below meth c H1 locs1 (cells + mc) (slots + ms) Q (F0 m (pc + 3) ls (.int r :: rest))) : W p l e R s m args below meth c H locs cells slots Q (F0 m pc ls st0) := by
  intro T hT X
  rcases hr T hT X with ⟨v, st₀, t, T', L, h0, X', hL, e1, e2, ⟨⟨r, u, hv, hp, hb⟩, hF⟩, st⟩ | ⟨q, st₀, t, T', L, E, ce, h0, X', hL, e1, e2, ⟨u, hp, hb, hF⟩, hce, hcv, hcl, st⟩
  · cases hv
    obtain ⟨k1, k2, k3⟩ := vx_keep h0 e1 hS hA hf hL hF
    obtain ⟨t2, a1, b1⟩ := kk r u t T'.heap (locs ++ L) e1.symm (by rw [← e2]; exact X'.warmed.alike) hp hb k1 k2 k3 T' rfl X'
    exact ⟨t2, st t2 a1, b1⟩
  · obtain ⟨k1, k2, k3⟩ := vx_keep h0 e1 hS hAX hf hL hF
    obtain ⟨t2, a1, b1⟩ := kx E ce q u t T'.heap (locs ++ L) e1.symm (by rw [← e2]; exact X'.warmed.alike) hp hb k1 k2 k3 (by rw [e1]; exact hce) hcv hcl T' rfl X'
    exact ⟨t2, st.trans a1, b1⟩
theorem vx_calll {S SX : Type} {post : Int64 → S → Prop} {px : SX → Prop} {B : S → State → Prop} {BX : String → SX → State → Prop} {AX : Nat → Prop} (hr : vx_Run p l e R s m args below meth c H locs cells slots mc ms (F0 m pc ls st0) rest (va_Ql post B A1 a) (vx_X px BX AX) free) (hS : va_S A0 H0 H locs) (hA : ∀ q, q < H.size → A1 q → A0 q) (hf : ∀ q, free q → A0 q) (hAX : ∀ q, q < H.size → AX q → A0 q)
    (kx : ∀ (E : String) (ce : Cell) (q9 : Addr) (u : SX) (t : State) (H1 : Heap) (locs1 : List Loc), t.heap = H1 → s.vm.Alike t.vm → px u → BX E u t → H.size ≤ H1.size → (∀ q : Nat, q < H.size → ¬ AX q → H1[q]? = H[q]?) → va_S A0 H0 H1 locs1 → H1[q9]? = some ce → ce.vm = .none → s.vm.findClass E = some ce.cls → vx_W p l e R s m args below meth c H1 locs1 (cells + mc) (slots + ms) Q (F0 m pc ls rest) q9)
    (kk : ∀ (r : Int64) (u : S) (t : State) (H1 : Heap) (locs1 : List Loc), t.heap = H1 → s.vm.Alike t.vm → post r u → B u t → H.size ≤ H1.size → (∀ q : Nat, q < H.size → ¬ A1 q → H1[q]? = H[q]?) → va_S A0 H0 H1 locs1 → W p l e R s m args below meth c H1 locs1 (cells + mc) (slots + ms) Q (F0 m (pc + 3) ls (.long r :: rest))) : W p l e R s m args below meth c H locs cells slots Q (F0 m pc ls st0) := by
  intro T hT X
  rcases hr T hT X with ⟨v, st₀, t, T', L, h0, X', hL, e1, e2, ⟨⟨r, u, hv, hp, hb⟩, hF⟩, st⟩ | ⟨q, st₀, t, T', L, E, ce, h0, X', hL, e1, e2, ⟨u, hp, hb, hF⟩, hce, hcv, hcl, st⟩
  · cases hv
    obtain ⟨k1, k2, k3⟩ := vx_keep h0 e1 hS hA hf hL hF
    obtain ⟨t2, a1, b1⟩ := kk r u t T'.heap (locs ++ L) e1.symm (by rw [← e2]; exact X'.warmed.alike) hp hb k1 k2 k3 T' rfl X'
    exact ⟨t2, st t2 a1, b1⟩
  · obtain ⟨k1, k2, k3⟩ := vx_keep h0 e1 hS hAX hf hL hF
    obtain ⟨t2, a1, b1⟩ := kx E ce q u t T'.heap (locs ++ L) e1.symm (by rw [← e2]; exact X'.warmed.alike) hp hb k1 k2 k3 (by rw [e1]; exact hce) hcv hcl T' rfl X'
    exact ⟨t2, st.trans a1, b1⟩
theorem vx_callf {S SX : Type} {post : UInt32 → S → Prop} {px : SX → Prop} {B : S → State → Prop} {BX : String → SX → State → Prop} {AX : Nat → Prop} (hr : vx_Run p l e R s m args below meth c H locs cells slots mc ms (F0 m pc ls st0) rest (va_Qf post B A1 a) (vx_X px BX AX) free) (hS : va_S A0 H0 H locs) (hA : ∀ q, q < H.size → A1 q → A0 q) (hf : ∀ q, free q → A0 q) (hAX : ∀ q, q < H.size → AX q → A0 q)
    (kx : ∀ (E : String) (ce : Cell) (q9 : Addr) (u : SX) (t : State) (H1 : Heap) (locs1 : List Loc), t.heap = H1 → s.vm.Alike t.vm → px u → BX E u t → H.size ≤ H1.size → (∀ q : Nat, q < H.size → ¬ AX q → H1[q]? = H[q]?) → va_S A0 H0 H1 locs1 → H1[q9]? = some ce → ce.vm = .none → s.vm.findClass E = some ce.cls → vx_W p l e R s m args below meth c H1 locs1 (cells + mc) (slots + ms) Q (F0 m pc ls rest) q9)
    (kk : ∀ (r : UInt32) (u : S) (t : State) (H1 : Heap) (locs1 : List Loc), t.heap = H1 → s.vm.Alike t.vm → post r u → B u t → H.size ≤ H1.size → (∀ q : Nat, q < H.size → ¬ A1 q → H1[q]? = H[q]?) → va_S A0 H0 H1 locs1 → W p l e R s m args below meth c H1 locs1 (cells + mc) (slots + ms) Q (F0 m (pc + 3) ls (.float r :: rest))) : W p l e R s m args below meth c H locs cells slots Q (F0 m pc ls st0) := by
  intro T hT X
  rcases hr T hT X with ⟨v, st₀, t, T', L, h0, X', hL, e1, e2, ⟨⟨r, u, hv, hp, hb⟩, hF⟩, st⟩ | ⟨q, st₀, t, T', L, E, ce, h0, X', hL, e1, e2, ⟨u, hp, hb, hF⟩, hce, hcv, hcl, st⟩
  · cases hv
    obtain ⟨k1, k2, k3⟩ := vx_keep h0 e1 hS hA hf hL hF
    obtain ⟨t2, a1, b1⟩ := kk r u t T'.heap (locs ++ L) e1.symm (by rw [← e2]; exact X'.warmed.alike) hp hb k1 k2 k3 T' rfl X'
    exact ⟨t2, st t2 a1, b1⟩
  · obtain ⟨k1, k2, k3⟩ := vx_keep h0 e1 hS hAX hf hL hF
    obtain ⟨t2, a1, b1⟩ := kx E ce q u t T'.heap (locs ++ L) e1.symm (by rw [← e2]; exact X'.warmed.alike) hp hb k1 k2 k3 (by rw [e1]; exact hce) hcv hcl T' rfl X'
    exact ⟨t2, st.trans a1, b1⟩
theorem vx_calld {S SX : Type} {post : UInt64 → S → Prop} {px : SX → Prop} {B : S → State → Prop} {BX : String → SX → State → Prop} {AX : Nat → Prop} (hr : vx_Run p l e R s m args below meth c H locs cells slots mc ms (F0 m pc ls st0) rest (va_Qd post B A1 a) (vx_X px BX AX) free) (hS : va_S A0 H0 H locs) (hA : ∀ q, q < H.size → A1 q → A0 q) (hf : ∀ q, free q → A0 q) (hAX : ∀ q, q < H.size → AX q → A0 q)
    (kx : ∀ (E : String) (ce : Cell) (q9 : Addr) (u : SX) (t : State) (H1 : Heap) (locs1 : List Loc), t.heap = H1 → s.vm.Alike t.vm → px u → BX E u t → H.size ≤ H1.size → (∀ q : Nat, q < H.size → ¬ AX q → H1[q]? = H[q]?) → va_S A0 H0 H1 locs1 → H1[q9]? = some ce → ce.vm = .none → s.vm.findClass E = some ce.cls → vx_W p l e R s m args below meth c H1 locs1 (cells + mc) (slots + ms) Q (F0 m pc ls rest) q9)
    (kk : ∀ (r : UInt64) (u : S) (t : State) (H1 : Heap) (locs1 : List Loc), t.heap = H1 → s.vm.Alike t.vm → post r u → B u t → H.size ≤ H1.size → (∀ q : Nat, q < H.size → ¬ A1 q → H1[q]? = H[q]?) → va_S A0 H0 H1 locs1 → W p l e R s m args below meth c H1 locs1 (cells + mc) (slots + ms) Q (F0 m (pc + 3) ls (.double r :: rest))) : W p l e R s m args below meth c H locs cells slots Q (F0 m pc ls st0) := by
  intro T hT X
  rcases hr T hT X with ⟨v, st₀, t, T', L, h0, X', hL, e1, e2, ⟨⟨r, u, hv, hp, hb⟩, hF⟩, st⟩ | ⟨q, st₀, t, T', L, E, ce, h0, X', hL, e1, e2, ⟨u, hp, hb, hF⟩, hce, hcv, hcl, st⟩
  · cases hv
    obtain ⟨k1, k2, k3⟩ := vx_keep h0 e1 hS hA hf hL hF
    obtain ⟨t2, a1, b1⟩ := kk r u t T'.heap (locs ++ L) e1.symm (by rw [← e2]; exact X'.warmed.alike) hp hb k1 k2 k3 T' rfl X'
    exact ⟨t2, st t2 a1, b1⟩
  · obtain ⟨k1, k2, k3⟩ := vx_keep h0 e1 hS hAX hf hL hF
    obtain ⟨t2, a1, b1⟩ := kx E ce q u t T'.heap (locs ++ L) e1.symm (by rw [← e2]; exact X'.warmed.alike) hp hb k1 k2 k3 (by rw [e1]; exact hce) hcv hcl T' rfl X'
    exact ⟨t2, st.trans a1, b1⟩
theorem vx_callv {S SX : Type} {post : S → Prop} {px : SX → Prop} {B : S → State → Prop} {BX : String → SX → State → Prop} {AX : Nat → Prop} (hr : vx_Run p l e R s m args below meth c H locs cells slots mc ms (F0 m pc ls st0) rest (va_Qv post B A1 a) (vx_X px BX AX) free) (hS : va_S A0 H0 H locs) (hA : ∀ q, q < H.size → A1 q → A0 q) (hf : ∀ q, free q → A0 q) (hAX : ∀ q, q < H.size → AX q → A0 q)
    (kx : ∀ (E : String) (ce : Cell) (q9 : Addr) (u : SX) (t : State) (H1 : Heap) (locs1 : List Loc), t.heap = H1 → s.vm.Alike t.vm → px u → BX E u t → H.size ≤ H1.size → (∀ q : Nat, q < H.size → ¬ AX q → H1[q]? = H[q]?) → va_S A0 H0 H1 locs1 → H1[q9]? = some ce → ce.vm = .none → s.vm.findClass E = some ce.cls → vx_W p l e R s m args below meth c H1 locs1 (cells + mc) (slots + ms) Q (F0 m pc ls rest) q9)
    (kk : ∀ (u : S) (t : State) (H1 : Heap) (locs1 : List Loc), t.heap = H1 → s.vm.Alike t.vm → post u → B u t → H.size ≤ H1.size → (∀ q : Nat, q < H.size → ¬ A1 q → H1[q]? = H[q]?) → va_S A0 H0 H1 locs1 → W p l e R s m args below meth c H1 locs1 (cells + mc) (slots + ms) Q (F0 m (pc + 3) ls (rest))) : W p l e R s m args below meth c H locs cells slots Q (F0 m pc ls st0) := by
  intro T hT X
  rcases hr T hT X with ⟨v, st₀, t, T', L, h0, X', hL, e1, e2, ⟨⟨u, hv, hp, hb⟩, hF⟩, st⟩ | ⟨q, st₀, t, T', L, E, ce, h0, X', hL, e1, e2, ⟨u, hp, hb, hF⟩, hce, hcv, hcl, st⟩
  · cases hv
    obtain ⟨k1, k2, k3⟩ := vx_keep h0 e1 hS hA hf hL hF
    obtain ⟨t2, a1, b1⟩ := kk u t T'.heap (locs ++ L) e1.symm (by rw [← e2]; exact X'.warmed.alike) hp hb k1 k2 k3 T' rfl X'
    exact ⟨t2, st t2 a1, b1⟩
  · obtain ⟨k1, k2, k3⟩ := vx_keep h0 e1 hS hAX hf hL hF
    obtain ⟨t2, a1, b1⟩ := kx E ce q u t T'.heap (locs ++ L) e1.symm (by rw [← e2]; exact X'.warmed.alike) hp hb k1 k2 k3 (by rw [e1]; exact hce) hcv hcl T' rfl X'
    exact ⟨t2, st.trans a1, b1⟩
/-- caught by the row x of this method's table; the rows ahead don't take it -/
theorem vx_catch {own name : String} {E : String} {ce : Cell} {q : Addr} (hown : s.vm.findClass own = some m.cls) (pre : List ExceptionTableEntry) (x : ExceptionTableEntry) (suf : List ExceptionTableEntry) (hsplit : c.exceptionTable.toList = pre ++ x :: suf)
    (hpass : ∀ z ∈ pre, covers z pc = false ∨ (z.catchType ≠ 0 ∧ ∃ nm : String, (Cond.classLink own z.catchType nm).before args s = true ∧ va_Nc E nm s)) (hx : covers x pc = true) (h0 : x.catchType ≠ 0)
    (hlink : (Cond.classLink own x.catchType name).before args s = true) (hcast : (Cond.castable E name).before args s = true) (hcell : H[q]? = some ce) (hv : ce.vm = .none) (hcl : s.vm.findClass E = some ce.cls)
    (kk : W p l e R s m args below meth c H locs cells slots Q (F0 m x.handlerPc ls [.ref q])) : vx_W p l e R s m args below meth c H locs cells slots Q (F0 m pc ls rest) q := by
  intro T hT X
  have hpl : e.platform.magicAccessors = ({} : Platform).magicAccessors := by rw [X.admits.platform]
  obtain ⟨c3, c4, hc3, hc4, hasg⟩ := Cond.castable_spec hcast
  cases Option.some.inj (hc3.symm.trans hcl)
  obtain ⟨c5, hc5, hcl5⟩ := Cond.classLink_spec hown hlink e.platform hpl
  cases Option.some.inj (hc4.symm.trans hc5)
  obtain ⟨vm', X', st⟩ := X.thenCaughtThrough q (g := F0 m pc ls rest) rfl (Steps.refl _) (by rw [hT]; exact hcell) (by rw [hv]; rfl) (by obtain ⟨k9, h9, -⟩ := Vm.findClass_spec hcl; exact ⟨k9, h9⟩) pre x suf hsplit
    (fun z hz => by
      rcases hpass z hz with h | ⟨hz0, nm, hl1, hn1⟩
      · exact Or.inl h
      · obtain ⟨c6, hc6, hcl6⟩ := Cond.classLink_spec hown hl1 e.platform hpl
        obtain ⟨a8, b8, h1, h2, h3⟩ := hn1
        cases Option.some.inj (h1.symm.trans hcl)
        cases Option.some.inj (h2.symm.trans hc6)
        exact Or.inr ⟨hz0, _, hcl6, h3⟩) hx (Or.inr ⟨h0, c4, hcl5, hasg⟩)
  obtain ⟨t, a1, b1⟩ := kk (T.setVm vm') hT X'
  exact ⟨t, st.trans a1, b1⟩
end Rows
section Ends
variable {p : Program} {l : Launch} {e : Env} {R : Room} {s : State} {m : MethodId} {args : Array Value} {below : List Frame} {meth : Method} {c : Code} {H : Heap} {locs : List Loc} {cells slots : Nat} {Q : State → Prop}
variable {mc ms : Nat} {free : Addr → Prop} {A0 A1 : Nat → Prop} {H0 : Heap} {a : Array Value} {ls : Array Slot} {st0 rest : List Value}
variable {Qc : Array Value → State → Outcome → State → Prop} {XC : String → State → State → Prop}
/-- what a body that may throw owes at its end -/
def vx_MQ (below : List Frame) (Qc : Array Value → State → Outcome → State → Prop) (XC : String → State → State → Prop) (a : Array Value) (s : State) (mc ms : Nat) (free : Addr → Prop) : State → Prop := fun t =>
  ∃ o, t.status = .running ∧ Ended t below o ∧ vx_Q Qc XC mc ms free a s o t
theorem vx_ret {g : JFrame} {mc ms : Nat} (k : W p l e R s m args below meth c H locs cells slots (MQ below Qc args s mc ms free) g) : W p l e R s m args below meth c H locs cells slots (vx_MQ below Qc XC args s mc ms free) g := by
  intro T hT X
  obtain ⟨t, a1, o, b1, b2, b3, b4⟩ := k T hT X
  exact ⟨t, a1, o, b1, b2, Or.inl ⟨b3, b4⟩⟩
/-- not caught here: it goes on to the caller -/
theorem vx_widen {g : JFrame} {q : Addr} {k n : Nat} (h1 : cells ≤ k) (h2 : slots ≤ n) (kk : vx_W p l e R s m args below meth c H locs k n Q g q) : vx_W p l e R s m args below meth c H locs cells slots Q g q := fun T hT X => kk T hT (stand_widen X h1 h2)
theorem vx_out {pc : Nat} {E : String} {ce : Cell} {q : Addr} {mc ms : Nat} (hout : ∀ x ∈ c.exceptionTable.toList, covers x pc = false) (hlocks : meth.locks = false) (hcell : H[q]? = some ce) (hv : ce.vm = .none) (hcl : s.vm.findClass E = some ce.cls)
    (hx : ∀ t : State, t.heap = H → s.vm.Alike t.vm → XC E s t) (hf : ∀ z ∈ locs, free z.base) (hc : cells ≤ mc) (hs : slots ≤ ms) :
    vx_W p l e R s m args below meth c H locs cells slots (vx_MQ below Qc XC args s mc ms free) (F0 m pc ls rest) q := by
  intro T hT X
  obtain ⟨st1, hrun, hend, hW, hsm⟩ := X.leaveThrown q (g := F0 m pc ls rest) rfl rfl rfl hout hlocks
  have hcell9 : (T.setFrames (.throwing q :: below)).heap[q]? = some ce := by
    show T.heap[q]? = some ce
    rw [hT]; exact hcell
  exact ⟨_, st1, .threw q, hrun, hend, Or.inr ⟨q, rfl, E, ce, locs, hx _ hT hW.alike, hcell9, hv, hcl, hW, hsm.mono hc hs, hf⟩⟩
theorem vx_frame {U : State} {k n : Nat} (h : s.sameButNew ({ U with vm := s.vm } : State) locs k n) : s.heap.size ≤ U.heap.size ∧ ∀ q : Nat, q < s.heap.size → (∀ z ∈ locs, z.base ≠ q) → U.heap[q]? = s.heap[q]? := by
  obtain ⟨-, h2, -, -, -, h6⟩ := h
  refine ⟨h2, fun q hq hz => ?_⟩
  obtain ⟨c9, e1, e2, e3, e4⟩ := h6 q _ (Array.getElem?_eq_getElem hq)
  have hs : c9.slots = (s.heap[q]).slots := Array.ext_getElem? fun i => e4 i fun hm => hz _ hm rfl
  have h9 : c9 = s.heap[q] := by
    rw [hs] at e2
    exact e2
  have e5 : U.heap[q]? = some c9 := e1
  rw [e5, h9, Array.getElem?_eq_getElem hq]
/-- the words of a throw but the four that speak of the heap -/
def vx_no (w : Cond) : Bool := decide (w ≠ .isRef (.static Bundle.tN "UNASSIGNED_STACK" Bundle.steD)) && decide (w ≠ .isRef (.static Bundle.tN "SUPPRESSED_SENTINEL" Bundle.listD)) && decide (w ≠ .laysStatic Bundle.tN "UNASSIGNED_STACK" Bundle.steD) && decide (w ≠ .laysStatic Bundle.tN "SUPPRESSED_SENTINEL" Bundle.listD)
def vx_at0 (own : String) (ic : Nat) (X : String) (names : List String) : List Cond := (Bundle.ownAtoms0 own ic X names).filter vx_no
def vx_atS (own : String) (ic : Nat) (X : String) (names : List String) : List Cond := (Bundle.ownAtoms own ic X names).filter vx_no
/-- a word that the tables alone decide, or a good one -/
def vx_ot (w : Cond) : Bool := w.onTables || goodWord w
theorem vx_ot_at {args a' : Array Value} {s U : State} {w : Cond} (hW : s.WarmedH U.vm) (hvm : s.vm = U.vm) (hg : vx_ot w = true) (h : w.before args s = true) : w.before a' U = true := by
  simp only [vx_ot, Bool.or_eq_true] at hg
  rcases hg with hg | hg
  · exact va_tabs hg hvm h
  · exact word_at hW (good_of_word hg) h
/-- a list's words: the good ones out of the method's own list, the others by premises of their own -/
theorem vx_hat {args : Array Value} {s : State} {L B : List Cond} (h1 : ∀ w ∈ L.filter goodWord, w.before args s = true) (h2 : ∀ w ∈ L.filter (fun w => !goodWord w), w ∈ B) (h3 : ∀ w ∈ B, w.before args s = true) : ∀ w ∈ L, w.before args s = true := by
  intro w hw
  by_cases g : goodWord w = true
  · exact h1 w (List.mem_filter.mpr ⟨hw, g⟩)
  · refine h3 w (h2 w (List.mem_filter.mpr ⟨hw, ?_⟩))
    show (!goodWord w) = true
    cases hgw : goodWord w
    · rfl
    · exact absurd hgw g
theorem vx_c {args : Array Value} {s : State} {w : Cond} {B : List Cond} (h : w.before args s = true) (t : ∀ w ∈ B, w.before args s = true) : ∀ w' ∈ w :: B, w'.before args s = true := fun w' h' => (List.mem_cons.mp h').elim (fun e => by rw [e]; exact h) (t w')
theorem vx_n {args : Array Value} {s : State} : ∀ w ∈ ([] : List Cond), w.before args s = true := fun _ h => nomatch h
theorem vx_own {args : Array Value} {s : State} {L : List Cond} (h1 : ∀ w ∈ L.filter vx_no, w.before args s = true)
    (hU : (Cond.isRef (.static Bundle.tN "UNASSIGNED_STACK" Bundle.steD)).before args s = true) (hN : (Cond.isRef (.static Bundle.tN "SUPPRESSED_SENTINEL" Bundle.listD)).before args s = true)
    (lU : (Cond.laysStatic Bundle.tN "UNASSIGNED_STACK" Bundle.steD).before args s = true) (lN : (Cond.laysStatic Bundle.tN "SUPPRESSED_SENTINEL" Bundle.listD).before args s = true) : ∀ w ∈ L, w.before args s = true := by
  intro w hw
  by_cases e1 : w = .isRef (.static Bundle.tN "UNASSIGNED_STACK" Bundle.steD)
  · rw [e1]; exact hU
  · by_cases e2 : w = .isRef (.static Bundle.tN "SUPPRESSED_SENTINEL" Bundle.listD)
    · rw [e2]; exact hN
    · by_cases e3 : w = .laysStatic Bundle.tN "UNASSIGNED_STACK" Bundle.steD
      · rw [e3]; exact lU
      · by_cases e4 : w = .laysStatic Bundle.tN "SUPPRESSED_SENTINEL" Bundle.listD
        · rw [e4]; exact lN
        · exact h1 w (List.mem_filter.mpr ⟨hw, by unfold vx_no; rw [decide_eq_true e1, decide_eq_true e2, decide_eq_true e3, decide_eq_true e4]; rfl⟩)
/-- where a static field lies, its class's statics cell in H -/
def vx_L (C n d : String) (A : Nat → Prop) (U : State) (H : Heap) : Prop := ∃ (c : ClassId) (k : Class) (i : Nat) (f : Field) (a : Nat) (cell : Cell), U.vm.findClass C = some c ∧ U.fieldFound? C n d = some (c, k, i, f) ∧ f.isStatic = true ∧ k.statics = some a ∧ H[a]? = some cell ∧ cell.vm.isStatics = true ∧ cell.cls = c ∧ f.slot < cell.slots.size ∧ k.staticTypes[f.slot]? = some f.type ∧ ¬ A a
theorem vx_L.moved {C n d : String} {A : Nat → Prop} {u U : State} {H : Heap} (hvm : u.vm.Alike U.vm) (h : vx_L C n d A u H) : vx_L C n d A U H := by
  obtain ⟨c, k, i, f, a, cell, h1, h2, h3, h4, h5, h6, h7, h8, h9, h10⟩ := h
  obtain ⟨k', hi', he⟩ := State.fieldFound?_setVm hvm h2
  exact ⟨c, k', i, f, a, cell, by rw [hvm.findClass]; exact h1, hi', h3, by rw [he]; exact h4, h5, h6, h7, h8, by rw [he]; exact h9, h10⟩
theorem vx_L.kept {C n d : String} {A : Nat → Prop} {U : State} {H H1 : Heap} (h : vx_L C n d A U H) (hq : ∀ a : Nat, a < H.size → ¬ A a → H1[a]? = H[a]?) : vx_L C n d A U H1 := by
  obtain ⟨c, k, i, f, a, cell, h1, h2, h3, h4, h5, h6, h7, h8, h9, h10⟩ := h
  exact ⟨c, k, i, f, a, cell, h1, h2, h3, h4, by rw [hq a (Array.getElem?_eq_some_iff.mp h5).1 h10]; exact h5, h6, h7, h8, h9, h10⟩
theorem vx_L.narrow {C n d : String} {A B : Nat → Prop} {U : State} {H : Heap} (h : vx_L C n d A U H) (hAB : ∀ q, B q → A q) : vx_L C n d B U H := by
  obtain ⟨c, k, i, f, a, cell, h1, h2, h3, h4, h5, h6, h7, h8, h9, h10⟩ := h
  exact ⟨c, k, i, f, a, cell, h1, h2, h3, h4, h5, h6, h7, h8, h9, fun z => h10 (hAB _ z)⟩
theorem vx_L.word {C n d : String} {A : Nat → Prop} {s : State} {args : Array Value} (h : vx_L C n d A s s.heap) : (Cond.laysStatic C n d).before args s = true := by
  obtain ⟨c, k, i, f, a, cell, h1, h2, h3, h4, h5, h6, h7, h8, h9, -⟩ := h
  show (Cond.laysStatic C n d).holds args s none s [] = true
  exact Cond.laysStatic_of h1 h2 h3 h4 h5 h6 h7 h8 h9
/-- .. and what it holds: null or some reference -/
def vx_Zq (C n d : String) (A : Nat → Prop) (U : State) (H : Heap) : Prop := va_Zq C n d A U H ∧ vx_L C n d A U H
theorem vx_Zq.moved {C n d : String} {A : Nat → Prop} {u U : State} {H : Heap} (hvm : u.vm.Alike U.vm) (h : vx_Zq C n d A u H) : vx_Zq C n d A U H := ⟨va_Zq.moved hvm h.1, vx_L.moved hvm h.2⟩
theorem vx_Zq.kept {C n d : String} {A : Nat → Prop} {U : State} {H H1 : Heap} (h : vx_Zq C n d A U H) (hq : ∀ a : Nat, a < H.size → ¬ A a → H1[a]? = H[a]?) : vx_Zq C n d A U H1 := ⟨va_Zq.kept h.1 hq, vx_L.kept h.2 hq⟩
theorem vx_Zq.narrow {C n d : String} {A B : Nat → Prop} {U : State} {H : Heap} (h : vx_Zq C n d A U H) (hAB : ∀ q, B q → A q) : vx_Zq C n d B U H := ⟨va_Zq.narrow h.1 hAB, vx_L.narrow h.2 hAB⟩
theorem vx_Zqof {args : Array Value} {s : State} {C n d : String} {A : Nat → Prop} (hl : (Cond.laysStatic C n d).before args s = true) (hini : (Cond.initialized C).before args s = true) (h : (Cond.isRef (.static C n d)).before args s = true) (hA : ∀ a : Nat, a < s.heap.size → ¬ A a) : vx_Zq C n d A s s.heap := by
  refine ⟨va_Zqof hl hini h hA, ?_⟩
  obtain ⟨c, k, i, f, a, cell, h1, h2, h3, h4, h5, h6, h7, h8, h9⟩ := Cond.laysStatic_spec hl
  exact ⟨c, k, i, f, a, cell, h1, h2, h3, h4, h5, h6, h7, h8, h9, hA a (Array.getElem?_eq_some_iff.mp h5).1⟩
theorem vx_isRef {C n d : String} {v : Value} {A : Nat → Prop} {s : State} {args : Array Value} (h : va_Z C n d v A s s.heap) (hv : v.isRef = true) : (Cond.isRef (.static C n d)).before args s = true := by
  obtain ⟨cf, kf, fi, f, a, cell, h1, h2, h3, h4, h5, h6, h7, -⟩ := h
  have he : (Term.static C n d).eval args s none [] s = some v := by
    simp [Term.eval, State.fieldNamed?, h1, h2, h4, h5, h6, h7]
  simp only [Cond.before, Cond.holds, Cond.value, he]
  cases v <;> simp_all [Value.isRef]
theorem vx_isRefq {C n d : String} {A : Nat → Prop} {s : State} {args : Array Value} (h : va_Zq C n d A s s.heap) : (Cond.isRef (.static C n d)).before args s = true := by
  rcases h with h | ⟨t, h⟩
  · exact vx_isRef h rfl
  · exact vx_isRef h rfl
/-- the same frame, seen from here: as if the method were called anew in this heap -/
theorem vx_rebase {T : State} (X : Stand p l e R s m args below meth c T locs cells slots) {R' : Room} (hf : R'.frames ≤ R.frames) (hl : R'.locals ≤ R.locals) (hc : cells + R'.cells ≤ R.cells) (hs : slots + R'.slots ≤ R.slots) :
    Stand p l e R' ((T.setVm s.vm).setFrames (.invoking m args :: below)) m args below meth c T [] 0 0 := by
  have htop : (T.setVm s.vm).topJava?.isSome := X.here.top
  have hF : ((T.setVm s.vm).setFrames (.invoking m args :: below)).frames = .invoking m args :: below := State.frames_setFrames _ (State.cur_lt_of_top htop)
  obtain ⟨g₀, hg0⟩ := Option.isSome_iff_exists.mp htop
  obtain ⟨r, hr⟩ := State.topJava?_eq_some.mp hg0
  have hl9 : e.platform.stackLimits (T.setVm s.vm).me = e.platform.stackLimits s.me := X.limits
  have hb9 : (T.setVm s.vm).me.stackBytes = s.me.stackBytes := X.bytes
  refine ⟨X.admits, X.cas, X.clock, hF, ?_, X.hears, X.method, X.code, X.here, X.tail, X.warmed, ?_, ?_, ?_⟩
  · have h := X.room
    have hU : ((T.setVm s.vm).setFrames (.invoking m args :: below)).localsInUse = s.localsInUse := by
      rw [State.localsInUse_invoking hF (meth := meth) (c := c) X.method X.code, State.localsInUse_invoking X.frames X.method X.code]
    simp only [State.hasRoom, Bool.and_eq_true, decide_eq_true_eq] at h ⊢
    obtain ⟨⟨⟨⟨h1, h2, h3, h4, h5, h6⟩, h7⟩, h8⟩, h9⟩ := h
    rw [X.frames, List.length_cons] at h2 h3
    have q1 := X.heapSize
    have q2 := X.used
    simp only [hF, hU, List.length_cons, State.stackLimits_setFrames, State.stackBytes_setFrames, hl9, hb9]
    refine ⟨⟨⟨⟨by omega, by omega, by omega, by omega, by omega, h6⟩, ?_⟩, ?_⟩, X.book⟩
    · show T.heap.size + R'.cells ≤ e.platform.maxCells
      omega
    · show T.slotsUsed + R'.slots ≤ e.platform.maxSlots
      omega
  · rw [State.stackLimits_setFrames]; rfl
  · rw [State.stackBytes_setFrames]; rfl
  · refine ⟨?_, Nat.le_refl _, Nat.le_refl _, ?_, ?_, fun a c9 h9 => ⟨c9, h9, rfl, rfl, fun _ _ => rfl⟩⟩
    · obtain ⟨t, ht, -⟩ := State.frames_cons hr
      show T.setVm s.vm = { ((T.setVm s.vm).setFrames (.invoking m args :: below)).setFrames (T.setVm s.vm).frames with heap := T.heap, slotsUsed := T.slotsUsed }
      rw [State.setFrames_setFrames, State.setFrames_self ht]
      rfl
    · show T.slotsUsed = T.slotsUsed + ((T.heap.toList.drop T.heap.size).map (·.slots.size)).sum
      rw [List.drop_eq_nil_of_le (Nat.le_of_eq Array.length_toList)]
      rfl
    · show ((T.heap.toList.drop T.heap.size).map (·.slots.size)).sum ≤ 0
      rw [List.drop_eq_nil_of_le (Nat.le_of_eq Array.length_toList)]
      exact Nat.le_refl _
/-- 'throw new E()': new; dup; invokespecial; athrow -/
theorem vx_throw0 {cc : ByteArray} {pc : Nat} (hexec : p.tables.exec = Jvm.exec) (hb : c.code = cc) (hl : l.stackTraces = false) {own cls : String} {names : List String} {ik ic mc ms : Nat} {A : Nat → Prop}
    (hown : s.vm.findClass own = some m.cls) (hcls : Bundle.fit cls = true) (hnames : ∀ n ∈ names, Bundle.fit n = true)
    (hk : (Cond.classLink own ik cls).before args s = true) (hini : (Cond.initialized cls).before args s = true) (hat : ∀ w ∈ vx_at0 own ic cls names, w.before args s = true)
    (hgood : ∀ w ∈ Cond.classLink own ik cls :: Cond.initialized cls :: vx_at0 own ic cls names, vx_ot w = true)
    (hU : vx_Zq Bundle.tN "UNASSIGNED_STACK" Bundle.steD A s s.heap) (hN : vx_Zq Bundle.tN "SUPPRESSED_SENTINEL" Bundle.listD A s s.heap) (hS : va_S A s.heap H locs) (hsize : ls.size = c.maxLocals)
    (d0 : decode cc pc = .ok (.new ik, 3)) (d3 : decode cc (pc + 3) = .ok (.dup, 1)) (d4 : decode cc (pc + 4) = .ok (.invokespecial ic, 3)) (d7 : decode cc (pc + 7) = .ok (.athrow, 1))
    (hout : ∀ x ∈ c.exceptionTable.toList, covers x (pc + 7) = false)
    (hRframes : names.length + 3 < R.frames) (hRlocals : (rest.map fun v => v.category).sum + (13 * (names.length + 1) + 42) ≤ R.locals) (hRcells : cells + 1 ≤ R.cells) (hRslots : slots + 6 ≤ R.slots) (hlocks : meth.locks = false)
    (hx : ∀ t : State, s.vm.Alike t.vm → H.size ≤ t.heap.size → (∀ q : Nat, q < H.size → t.heap[q]? = H[q]?) → XC cls s t)
    (hf : ∀ z ∈ locs, free z.base) (hc : cells + 1 ≤ mc) (hs : slots + 6 ≤ ms) :
    W p l e R s m args below meth c H locs cells slots (vx_MQ below Qc XC args s mc ms free) (F0 m pc ls rest) := by
  intro T hT X
  have htr : e.platform.stackTraces = false := (show e.platform.stackTraces = l.stackTraces by rw [X.admits.platform]).trans hl
  have Y := vx_rebase X (R' := { frames := R.frames, locals := R.locals, cells := 1, slots := 6 }) (Nat.le_refl _) (Nat.le_refl _) hRcells hRslots
  obtain ⟨s', hA⟩ : ∃ z, z = (T.setVm s.vm).setFrames (.invoking m args :: below) := ⟨_, rfl⟩
  rw [← hA] at Y
  have hvm : s'.vm = s.vm := by rw [hA]; rfl
  have hhp : s'.heap = H := by rw [hA]; exact hT
  have hW0 : s.WarmedH s'.vm := by rw [hvm]; exact State.WarmedH.refl s
  have hat' : ∀ w ∈ vx_at0 own ic cls names, w.before args s' = true := fun w hw => vx_ot_at hW0 hvm.symm (hgood w (List.mem_cons_of_mem _ (List.mem_cons_of_mem _ hw))) (hat w hw)
  have hk' : (Cond.classLink own ik cls).before args s' = true := vx_ot_at hW0 hvm.symm (hgood _ List.mem_cons_self) hk
  have hini' : (Cond.initialized cls).before args s' = true := vx_ot_at hW0 hvm.symm (hgood _ (List.mem_cons_of_mem _ List.mem_cons_self)) hini
  have hU' : vx_Zq Bundle.tN "UNASSIGNED_STACK" Bundle.steD A s' s'.heap := by rw [hhp]; exact vx_Zq.moved hW0.alike (hU.kept hS.2.1)
  have hN' : vx_Zq Bundle.tN "SUPPRESSED_SENTINEL" Bundle.listD A s' s'.heap := by rw [hhp]; exact vx_Zq.moved hW0.alike (hN.kept hS.2.1)
  have h : ∀ w ∈ Bundle.ownAtoms0 own ic cls names, w.before args s' = true := vx_own hat' (vx_isRefq hU'.1) (vx_isRefq hN'.1) hU'.2.word hN'.2.word
  have hown' : s'.vm.findClass own = some m.cls := by rw [hvm]; exact hown
  have hins : (Cond.instantiable cls 6).before args s' = true := h _ (by simp [Bundle.ownAtoms0])
  obtain ⟨vm₁, cX, kX, hfX, hkX, -, -, X₁, st1⟩ := Y.newCold hexec (own := own) (C := cls) (index := ik) (n := 6) hown' hk' hins hini'
    (g := F0 m pc ls rest) rfl (by rw [hb]; exact d0) (Nat.le_refl _) (Nat.le_refl _)
  generalize hT1 : (T.setVm vm₁).pushCell { cls := cX, slots := kX.instanceTypes.map defaultValue, vm := .none } = T1 at X₁ st1
  have hcat : (Value.ref T.heap.size).category = 1 := rfl
  have hcellA : T1.heap[T.heap.size]? = some (freshCell cX kX) := by rw [← hT1]; exact State.heap_pushCell_size _ _
  have d3' : decode c.code (pc + 3) = .ok (.dup, 1) := by rw [hb]; exact d3
  obtain ⟨U, hsteps, hrun, hend, hW, hsame, ce, hce, hO⟩ := X₁.ctorThrow0 hexec htr (own := own) (cls := cls) (names := names) (ic := ic) hown' hcls hnames h (fun x hx => nomatch hx) hfX hkX hcellA (by rw [hhp, hT]; exact Nat.le_refl _)
    (g := { method := m, pc := pc + 4, locals := ls, stack := .ref T.heap.size :: .ref T.heap.size :: rest, locked := none }) rfl hsize rfl rfl (rest := rest) rfl
    (by rw [hb]; exact d4) (by rw [hb]; exact d7) hout hRframes (by simp only [List.map_cons, List.sum_cons, hcat]; omega) hlocks
  obtain ⟨f1, f2⟩ := vx_frame hsame
  rw [hhp] at f1 f2
  have hWs : s.WarmedH U.vm := State.WarmedH.trans hW0 hW
  have hcl : s.vm.findClass cls = some ce.cls := by
    have h9 := hO.cls
    rw [hvm] at h9
    exact h9
  have hall : s.sameButNew ({ U with vm := s.vm } : State) locs mc ms := by
    subst hA
    obtain ⟨e1, e2⟩ := hsame
    rw [State.setFrames_setFrames] at e1
    have h2 : (T.setVm s.vm).sameButNew ({ U with vm := s.vm } : State) [] (0 + 1) (0 + 6) := ⟨e1, e2⟩
    have h3 := X.same.trans h2
    rw [List.append_nil] at h3
    exact h3.mono hc hs
  refine ⟨U, ?_, .threw T.heap.size, hrun, hend, Or.inr ⟨T.heap.size, rfl, cls, ce, locs, hx U hWs.alike f1 (fun q hq => f2 q hq (fun z hz => nomatch hz)), hce, hO.vm, hcl, hWs, hall, hf⟩⟩
  refine st1 _ ?_
  show Steps p.tables e below (T1.setTop { method := m, pc := pc + 3, locals := ls, stack := .ref T.heap.size :: rest, locked := none }) _
  jvm_step X₁.here [X₁.here.top, hexec, d3', Value.category]
  exact hsteps
/-- 'throw new E("text")': new; dup; ldc; invokespecial; athrow -/
theorem vx_throwS {cc : ByteArray} {pc : Nat} (hexec : p.tables.exec = Jvm.exec) (hb : c.code = cc) (hl : l.stackTraces = false) {own cls text : String} {names : List String} {ik is ic mc ms sa : Nat} {A : Nat → Prop}
    (hown : s.vm.findClass own = some m.cls) (hcls : Bundle.fit cls = true) (hnames : ∀ n ∈ names, Bundle.fit n = true)
    (hk : (Cond.classLink own ik cls).before args s = true) (hini : (Cond.initialized cls).before args s = true) (hstr : vk_R own is text sa s) (hat : ∀ w ∈ vx_atS own ic cls names, w.before args s = true)
    (hgood : ∀ w ∈ Cond.classLink own ik cls :: Cond.initialized cls :: vx_atS own ic cls names, vx_ot w = true)
    (hU : vx_Zq Bundle.tN "UNASSIGNED_STACK" Bundle.steD A s s.heap) (hN : vx_Zq Bundle.tN "SUPPRESSED_SENTINEL" Bundle.listD A s s.heap) (hS : va_S A s.heap H locs) (hsize : ls.size = c.maxLocals)
    (d0 : decode cc pc = .ok (.new ik, 3)) (d3 : decode cc (pc + 3) = .ok (.dup, 1)) (d4 : decode cc (pc + 4) = .ok (.ldc is, 2)) (d6 : decode cc (pc + 6) = .ok (.invokespecial ic, 3)) (d9 : decode cc (pc + 9) = .ok (.athrow, 1))
    (hout : ∀ x ∈ c.exceptionTable.toList, covers x (pc + 9) = false)
    (hRframes : names.length + 3 < R.frames) (hRlocals : (rest.map fun v => v.category).sum + (13 * (names.length + 1) + 43) ≤ R.locals) (hRcells : cells + 1 ≤ R.cells) (hRslots : slots + 6 ≤ R.slots) (hlocks : meth.locks = false)
    (hx : ∀ t : State, s.vm.Alike t.vm → H.size ≤ t.heap.size → (∀ q : Nat, q < H.size → t.heap[q]? = H[q]?) → XC cls s t)
    (hf : ∀ z ∈ locs, free z.base) (hc : cells + 1 ≤ mc) (hs : slots + 6 ≤ ms) :
    W p l e R s m args below meth c H locs cells slots (vx_MQ below Qc XC args s mc ms free) (F0 m pc ls rest) := by
  intro T hT X
  have htr : e.platform.stackTraces = false := (show e.platform.stackTraces = l.stackTraces by rw [X.admits.platform]).trans hl
  have Y := vx_rebase X (R' := { frames := R.frames, locals := R.locals, cells := 1, slots := 6 }) (Nat.le_refl _) (Nat.le_refl _) hRcells hRslots
  obtain ⟨s', hA⟩ : ∃ z, z = (T.setVm s.vm).setFrames (.invoking m args :: below) := ⟨_, rfl⟩
  rw [← hA] at Y
  have hvm : s'.vm = s.vm := by rw [hA]; rfl
  have hhp : s'.heap = H := by rw [hA]; exact hT
  have hW0 : s.WarmedH s'.vm := by rw [hvm]; exact State.WarmedH.refl s
  have hat' : ∀ w ∈ vx_atS own ic cls names, w.before args s' = true := fun w hw => vx_ot_at hW0 hvm.symm (hgood w (List.mem_cons_of_mem _ (List.mem_cons_of_mem _ hw))) (hat w hw)
  have hk' : (Cond.classLink own ik cls).before args s' = true := vx_ot_at hW0 hvm.symm (hgood _ List.mem_cons_self) hk
  have hini' : (Cond.initialized cls).before args s' = true := vx_ot_at hW0 hvm.symm (hgood _ (List.mem_cons_of_mem _ List.mem_cons_self)) hini
  have hU' : vx_Zq Bundle.tN "UNASSIGNED_STACK" Bundle.steD A s' s'.heap := by rw [hhp]; exact vx_Zq.moved hW0.alike (hU.kept hS.2.1)
  have hN' : vx_Zq Bundle.tN "SUPPRESSED_SENTINEL" Bundle.listD A s' s'.heap := by rw [hhp]; exact vx_Zq.moved hW0.alike (hN.kept hS.2.1)
  have h : ∀ w ∈ Bundle.ownAtoms own ic cls names, w.before args s' = true := vx_own hat' (vx_isRefq hU'.1) (vx_isRefq hN'.1) hU'.2.word hN'.2.word
  have hown' : s'.vm.findClass own = some m.cls := by rw [hvm]; exact hown
  have hins : (Cond.instantiable cls 6).before args s' = true := h _ (by simp [Bundle.ownAtoms])
  obtain ⟨vm₁, cX, kX, hfX, hkX, -, -, X₁, st1⟩ := Y.newCold hexec (own := own) (C := cls) (index := ik) (n := 6) hown' hk' hins hini'
    (g := F0 m pc ls rest) rfl (by rw [hb]; exact d0) (Nat.le_refl _) (Nat.le_refl _)
  generalize hT1 : (T.setVm vm₁).pushCell { cls := cX, slots := kX.instanceTypes.map defaultValue, vm := .none } = T1 at X₁ st1
  have hcat : (Value.ref T.heap.size).category = 1 := rfl
  have hcellA : T1.heap[T.heap.size]? = some (freshCell cX kX) := by rw [← hT1]; exact State.heap_pushCell_size _ _
  have d3' : decode c.code (pc + 3) = .ok (.dup, 1) := by rw [hb]; exact d3
  have d4' : decode c.code (pc + 4) = .ok (.ldc is, 2) := by rw [hb]; exact d4
  have hstr' : vk_R own is text sa s' := vk_R.warm hW0 hstr
  obtain ⟨U, hsteps, hrun, hend, hW, hsame, ce, hce, hO⟩ := X₁.ctorThrowS hexec htr (own := own) (cls := cls) (names := names) (ic := ic) hown' hcls hnames h (fun x hx => nomatch hx) hfX hkX hcellA (by rw [hhp, hT]; exact Nat.le_refl _) (msg := .ref sa) rfl
    (g := { method := m, pc := pc + 6, locals := ls, stack := .ref sa :: .ref T.heap.size :: .ref T.heap.size :: rest, locked := none }) rfl hsize rfl rfl (rest := rest) rfl
    (by rw [hb]; exact d6) (by rw [hb]; exact d9) hout hRframes (by simp only [List.map_cons, List.sum_cons, hcat]; omega) hlocks
  obtain ⟨f1, f2⟩ := vx_frame hsame
  rw [hhp] at f1 f2
  have hWs : s.WarmedH U.vm := State.WarmedH.trans hW0 hW
  have hcl : s.vm.findClass cls = some ce.cls := by
    have h9 := hO.cls
    rw [hvm] at h9
    exact h9
  have hall : s.sameButNew ({ U with vm := s.vm } : State) locs mc ms := by
    subst hA
    obtain ⟨e1, e2⟩ := hsame
    rw [State.setFrames_setFrames] at e1
    have h2 : (T.setVm s.vm).sameButNew ({ U with vm := s.vm } : State) [] (0 + 1) (0 + 6) := ⟨e1, e2⟩
    have h3 := X.same.trans h2
    rw [List.append_nil] at h3
    exact h3.mono hc hs
  refine ⟨U, ?_, .threw T.heap.size, hrun, hend, Or.inr ⟨T.heap.size, rfl, cls, ce, locs, hx U hWs.alike f1 (fun q hq => f2 q hq (fun z hz => nomatch hz)), hce, hO.vm, hcl, hWs, hall, hf⟩⟩
  refine st1 _ ?_
  show Steps p.tables e below (T1.setTop { method := m, pc := pc + 3, locals := ls, stack := .ref T.heap.size :: rest, locked := none }) _
  jvm_step X₁.here [X₁.here.top, hexec, d3', Value.category]
  exact X₁.ldcString hexec (own := own) (text := text) (index := is) (a := sa) hown' hstr'.1 hstr'.2
    (g := { method := m, pc := pc + 4, locals := ls, stack := .ref T.heap.size :: .ref T.heap.size :: rest, locked := none }) rfl d4' _ hsteps
/-- 'throw new E("text")', the text by a wide index -/
theorem vx_throwSW {cc : ByteArray} {pc : Nat} (hexec : p.tables.exec = Jvm.exec) (hb : c.code = cc) (hl : l.stackTraces = false) {own cls text : String} {names : List String} {ik is ic mc ms sa : Nat} {A : Nat → Prop}
    (hown : s.vm.findClass own = some m.cls) (hcls : Bundle.fit cls = true) (hnames : ∀ n ∈ names, Bundle.fit n = true)
    (hk : (Cond.classLink own ik cls).before args s = true) (hini : (Cond.initialized cls).before args s = true) (hstr : vk_R own is text sa s) (hat : ∀ w ∈ vx_atS own ic cls names, w.before args s = true)
    (hgood : ∀ w ∈ Cond.classLink own ik cls :: Cond.initialized cls :: vx_atS own ic cls names, vx_ot w = true)
    (hU : vx_Zq Bundle.tN "UNASSIGNED_STACK" Bundle.steD A s s.heap) (hN : vx_Zq Bundle.tN "SUPPRESSED_SENTINEL" Bundle.listD A s s.heap) (hS : va_S A s.heap H locs) (hsize : ls.size = c.maxLocals)
    (d0 : decode cc pc = .ok (.new ik, 3)) (d3 : decode cc (pc + 3) = .ok (.dup, 1)) (d4 : decode cc (pc + 4) = .ok (.ldc_w is, 3)) (d7 : decode cc (pc + 7) = .ok (.invokespecial ic, 3)) (d10 : decode cc (pc + 10) = .ok (.athrow, 1))
    (hout : ∀ x ∈ c.exceptionTable.toList, covers x (pc + 10) = false)
    (hRframes : names.length + 3 < R.frames) (hRlocals : (rest.map fun v => v.category).sum + (13 * (names.length + 1) + 43) ≤ R.locals) (hRcells : cells + 1 ≤ R.cells) (hRslots : slots + 6 ≤ R.slots) (hlocks : meth.locks = false)
    (hx : ∀ t : State, s.vm.Alike t.vm → H.size ≤ t.heap.size → (∀ q : Nat, q < H.size → t.heap[q]? = H[q]?) → XC cls s t)
    (hf : ∀ z ∈ locs, free z.base) (hc : cells + 1 ≤ mc) (hs : slots + 6 ≤ ms) :
    W p l e R s m args below meth c H locs cells slots (vx_MQ below Qc XC args s mc ms free) (F0 m pc ls rest) := by
  intro T hT X
  have htr : e.platform.stackTraces = false := (show e.platform.stackTraces = l.stackTraces by rw [X.admits.platform]).trans hl
  have Y := vx_rebase X (R' := { frames := R.frames, locals := R.locals, cells := 1, slots := 6 }) (Nat.le_refl _) (Nat.le_refl _) hRcells hRslots
  obtain ⟨s', hA⟩ : ∃ z, z = (T.setVm s.vm).setFrames (.invoking m args :: below) := ⟨_, rfl⟩
  rw [← hA] at Y
  have hvm : s'.vm = s.vm := by rw [hA]; rfl
  have hhp : s'.heap = H := by rw [hA]; exact hT
  have hW0 : s.WarmedH s'.vm := by rw [hvm]; exact State.WarmedH.refl s
  have hat' : ∀ w ∈ vx_atS own ic cls names, w.before args s' = true := fun w hw => vx_ot_at hW0 hvm.symm (hgood w (List.mem_cons_of_mem _ (List.mem_cons_of_mem _ hw))) (hat w hw)
  have hk' : (Cond.classLink own ik cls).before args s' = true := vx_ot_at hW0 hvm.symm (hgood _ List.mem_cons_self) hk
  have hini' : (Cond.initialized cls).before args s' = true := vx_ot_at hW0 hvm.symm (hgood _ (List.mem_cons_of_mem _ List.mem_cons_self)) hini
  have hU' : vx_Zq Bundle.tN "UNASSIGNED_STACK" Bundle.steD A s' s'.heap := by rw [hhp]; exact vx_Zq.moved hW0.alike (hU.kept hS.2.1)
  have hN' : vx_Zq Bundle.tN "SUPPRESSED_SENTINEL" Bundle.listD A s' s'.heap := by rw [hhp]; exact vx_Zq.moved hW0.alike (hN.kept hS.2.1)
  have h : ∀ w ∈ Bundle.ownAtoms own ic cls names, w.before args s' = true := vx_own hat' (vx_isRefq hU'.1) (vx_isRefq hN'.1) hU'.2.word hN'.2.word
  have hown' : s'.vm.findClass own = some m.cls := by rw [hvm]; exact hown
  have hins : (Cond.instantiable cls 6).before args s' = true := h _ (by simp [Bundle.ownAtoms])
  obtain ⟨vm₁, cX, kX, hfX, hkX, -, -, X₁, st1⟩ := Y.newCold hexec (own := own) (C := cls) (index := ik) (n := 6) hown' hk' hins hini'
    (g := F0 m pc ls rest) rfl (by rw [hb]; exact d0) (Nat.le_refl _) (Nat.le_refl _)
  generalize hT1 : (T.setVm vm₁).pushCell { cls := cX, slots := kX.instanceTypes.map defaultValue, vm := .none } = T1 at X₁ st1
  have hcat : (Value.ref T.heap.size).category = 1 := rfl
  have hcellA : T1.heap[T.heap.size]? = some (freshCell cX kX) := by rw [← hT1]; exact State.heap_pushCell_size _ _
  have d3' : decode c.code (pc + 3) = .ok (.dup, 1) := by rw [hb]; exact d3
  have d4' : decode c.code (pc + 4) = .ok (.ldc_w is, 3) := by rw [hb]; exact d4
  have hstr' : vk_R own is text sa s' := vk_R.warm hW0 hstr
  obtain ⟨U, hsteps, hrun, hend, hW, hsame, ce, hce, hO⟩ := X₁.ctorThrowS hexec htr (own := own) (cls := cls) (names := names) (ic := ic) hown' hcls hnames h (fun x hx => nomatch hx) hfX hkX hcellA (by rw [hhp, hT]; exact Nat.le_refl _) (msg := .ref sa) rfl
    (g := { method := m, pc := pc + 7, locals := ls, stack := .ref sa :: .ref T.heap.size :: .ref T.heap.size :: rest, locked := none }) rfl hsize rfl rfl (rest := rest) rfl
    (by rw [hb]; exact d7) (by rw [hb]; exact d10) hout hRframes (by simp only [List.map_cons, List.sum_cons, hcat]; omega) hlocks
  obtain ⟨f1, f2⟩ := vx_frame hsame
  rw [hhp] at f1 f2
  have hWs : s.WarmedH U.vm := State.WarmedH.trans hW0 hW
  have hcl : s.vm.findClass cls = some ce.cls := by
    have h9 := hO.cls
    rw [hvm] at h9
    exact h9
  have hall : s.sameButNew ({ U with vm := s.vm } : State) locs mc ms := by
    subst hA
    obtain ⟨e1, e2⟩ := hsame
    rw [State.setFrames_setFrames] at e1
    have h2 : (T.setVm s.vm).sameButNew ({ U with vm := s.vm } : State) [] (0 + 1) (0 + 6) := ⟨e1, e2⟩
    have h3 := X.same.trans h2
    rw [List.append_nil] at h3
    exact h3.mono hc hs
  refine ⟨U, ?_, .threw T.heap.size, hrun, hend, Or.inr ⟨T.heap.size, rfl, cls, ce, locs, hx U hWs.alike f1 (fun q hq => f2 q hq (fun z hz => nomatch hz)), hce, hO.vm, hcl, hWs, hall, hf⟩⟩
  refine st1 _ ?_
  show Steps p.tables e below (T1.setTop { method := m, pc := pc + 3, locals := ls, stack := .ref T.heap.size :: rest, locked := none }) _
  jvm_step X₁.here [X₁.here.top, hexec, d3', Value.category]
  exact X₁.ldcStringW hexec (own := own) (text := text) (index := is) (a := sa) hown' hstr'.1 hstr'.2
    (g := { method := m, pc := pc + 4, locals := ls, stack := .ref T.heap.size :: .ref T.heap.size :: rest, locked := none }) rfl d4' _ hsteps
end Ends
section Bodies
variable {l : Launch}
theorem vx_ofW {y : MethodName} {ws ws' : List Cond} {rm : Room} {Pc : Array Value → State → Prop} {Qc : Array Value → State → Outcome → State → Prop} {XC : String → State → State → Prop} {mc ms : Nat} {free : Addr → Prop} {cc : ByteArray} {maxL : Nat} {ret : Option FieldType}
    (hy : plainName y.cls = true) (hw : ws = Cond.code y cc maxL ret :: ws')
    (body : ∀ p e s m args below meth c s₁, BodyLoose p l y (headSpec ws rm) cc maxL ret e s m args below meth c s₁ → c.maxLocals = maxL → (∀ x ∈ c.exceptionTable.toList, False) → Pc args s →
      W p l e (headSpec ws rm).room s m args below meth c s.heap [] 0 0 (vx_MQ below Qc XC args s mc ms free) (entryFrame m args maxL)) : vx_Met l y ws rm Pc Qc XC mc ms free := by
  refine MetFree.of_bodyS (code := cc) (maxLocals := maxL) (ret := ret) hy ?_ ?_
  · intro args s m h hn
    obtain ⟨meth, c, h1, h2, h3, h4, h5, h6, -, -⟩ := Cond.code_spec hn (atoms_spec (ws := ws) h _ (by rw [hw]; exact List.mem_cons_self))
    exact ⟨meth, c, h1, h2, h3, h4, h5, h6⟩
  · intro p e s m args below meth c s₁ B hml hP _
    have hh0 : s₁.heap = s.heap := by rw [B.state]; rfl
    have ht : ∀ x ∈ c.exceptionTable.toList, False := by
      obtain ⟨meth9, c9, h1, h2, -, -, -, -, h7, -⟩ := Cond.code_spec B.named (atoms_spec (ws := ws) B.pre _ (by rw [hw]; exact List.mem_cons_self))
      cases Option.some.inj (h1.symm.trans B.method)
      cases Option.some.inj (h2.symm.trans (Stand.of_body B).code)
      intro x hx
      rw [Array.isEmpty_iff.mp h7] at hx
      cases hx
    obtain ⟨t, a1, o, b1, b2, b3⟩ := body p e s m args below meth c s₁ B hml ht hP s₁ hh0 (Stand.of_body B)
    exact ⟨t, o, a1, b1, b2, b3⟩
/-- the table of a body with handlers -/
theorem vx_table {p : Program} {x y : MethodName} {S : Spec} {cc bytes : ByteArray} {maxL maxL' : Nat} {ret ret' : Option FieldType} {e : Env} {s s₁ : State} {m : MethodId} {args : Array Value} {below : List Frame} {meth : Method} {c : Code} {hh : List (Nat × Nat × Nat × Nat)}
    (B : BodyLoose p l y S cc maxL ret e s m args below meth c s₁) (h : (Cond.codeWith y bytes maxL' ret' hh).before args s = true) : c.exceptionTable.toList = tableOf hh := by
  obtain ⟨m9, meth9, c9, hn9, h1, h2, -, -, h6, -⟩ := Cond.codeWith_spec h
  cases Option.some.inj (hn9.symm.trans B.named)
  cases Option.some.inj (h1.symm.trans B.method)
  cases Option.some.inj (h2.symm.trans (Stand.of_body B).code)
  rw [← h6, table_eq]
end Bodies
end VXA
/-! ===== END ===== -/
/-! ===== BEGIN a static call of a method with an exception table ===== -/
section VXS
variable {p : Program} {l : Launch} {e : Env} {R : Room} {s : State} {m : MethodId} {args : Array Value} {below : List Frame} {meth : Method} {c : Code} {T : State} {H : Heap} {locs : List Loc} {cells slots : Nat}
abbrev vx_CSW (R : Room) (s : State) (args : Array Value) (own : String) (index : Nat) (y : MethodName) (bytes : ByteArray) (maxL : Nat) (ret : Option FieldType) (hh : List (Nat × Nat × Nat × Nat)) (ws : List Cond) (rm : Room) (mc ms n : Nat) : Prop :=
  (rm.cells = mc ∧ rm.slots = ms ∧ rm.frames + 1 ≤ R.frames ∧ 8 + (maxL + 11) + rm.locals ≤ R.locals ∧ (∀ w ∈ ws, ∀ (a' : Array Value) (U : State), s.WarmedH U.vm → w.before a' U = true) ∧ Cond.codeWith y bytes maxL ret hh ∈ ws) ∧
  (Cond.codeWith y bytes maxL ret hh).before args s = true ∧ (Cond.initialized y.cls).before args s = true ∧ (y.cls ≠ "java/lang/invoke/MethodHandle" ∧ y.cls ≠ "java/lang/invoke/VarHandle") ∧
  (∀ sig, parseMethodDescriptor y.desc = some sig → n = sig.parameters.length) ∧ (Cond.methodLink own index y).before args s = true ∧ (Cond.static y).before args s = true
theorem vx_cwSW {own : String} {index maxL mc ms : Nat} {y : MethodName} {bytes : ByteArray} {ret : Option FieldType} {hh : List (Nat × Nat × Nat × Nat)} {Ts ws ws' : List Cond} {rm : Room} (n : Nat) (ht : ∀ w ∈ Ts, w.before args s = true) (hT : GoodIn Ts (va_wsS own index y ws)) (hw : ws = Cond.codeWith y bytes maxL ret hh :: ws') (hrc : rm.cells = mc) (hrs : rm.slots = ms)
    (hd : y.cls ≠ "java/lang/invoke/MethodHandle" ∧ y.cls ≠ "java/lang/invoke/VarHandle" ∧ (parseMethodDescriptor y.desc).map (fun d => d.parameters.length) = some n) (hR : rm.frames + 1 ≤ R.frames ∧ 8 + (maxL + 11) + rm.locals ≤ R.locals) :
    vx_CSW R s args own index y bytes maxL ret hh ws rm mc ms n := by
  have ok : ∀ w ∈ va_wsS own index y ws, w.before args s = true := fun w h => ht w (hT w h).1
  have hG : GoodIn Ts ws := fun w h => hT w (by unfold va_wsS; exact List.mem_append_right _ h)
  have hc : Cond.codeWith y bytes maxL ret hh ∈ ws := by rw [hw]; exact List.mem_cons_self
  refine ⟨⟨hrc, hrs, hR.1, hR.2, pay_in ht hG, hc⟩, ht _ (hG _ hc).1, ok _ (by simp [va_wsS]), ⟨hd.1, hd.2.1⟩, fun sig h => ?_, ok _ (by simp [va_wsS]), ok _ (by simp [va_wsS])⟩
  have h2 := hd.2.2
  rw [h] at h2
  exact (Option.some.inj h2).symm
theorem vx_callSW (X : Stand p l e R s m args below meth c T locs cells slots) (hexec : p.tables.exec = Jvm.exec) {own : String} {index : Nat} {y : MethodName} {bytes : ByteArray} {maxL : Nat} {ret : Option FieldType} {hh : List (Nat × Nat × Nat × Nat)}
    (hown : s.vm.findClass own = some m.cls) (hlink : (Cond.methodLink own index y).before args s = true) (hstat : (Cond.static y).before args s = true) (hinit : (Cond.initialized y.cls).before args s = true)
    (hcode : (Cond.codeWith y bytes maxL ret hh).before args s = true) (hy : y.cls ≠ "java/lang/invoke/MethodHandle" ∧ y.cls ≠ "java/lang/invoke/VarHandle")
    {W9 : Nat} {Pre : Pt → Array Value → Prop} {Post : Pt → Array Value → Option Value → Pt → Prop} (hK : Back l R p e below s args y 3 W9 Pre Post)
    {g : JFrame} (hg : g.method = m) (hsize : g.locals.size = c.maxLocals) {argsL rest : List Value} (hlen : ∀ sig, parseMethodDescriptor y.desc = some sig → argsL.length = sig.parameters.length)
    (hstack : g.stack = argsL.reverse ++ rest) (hW : 2 * g.monitorRoom + (rest.map fun v => v.category).sum ≤ W9) (hdg : decode c.code g.pc = .ok (.invokestatic index, 3))
    (hpre : ∀ vm₁, s.WarmedH vm₁ → Pre ⟨T.setVm vm₁, locs, cells, slots⟩ argsL.toArray) :
    ∃ (v : Option Value) (vm₁ : Vm) (B : Pt), s.WarmedH vm₁ ∧ Stand p l e R s m args below meth c B.U B.locs B.cells B.slots ∧ Post ⟨T.setVm vm₁, locs, cells, slots⟩ argsL.toArray v B ∧
      ∀ target, Steps p.tables e below (B.U.setTop { g with pc := g.pc + 3, stack := v.toList ++ rest }) target → Steps p.tables e below (T.setTop g) target := by
  obtain ⟨mk, methM, cM, hnamed, hmethM, -, -, -, -, -, -, hsigM⟩ := Cond.codeWith_spec hcode
  have hstatic : methM.isStatic = true := Cond.static_spec hnamed hmethM hstat
  obtain ⟨kP, hkP, -⟩ := className_of_methodNamed hnamed
  have hinitP : kP.init = .initialized := Cond.initialized_spec (findClass_of_methodNamed hnamed) hkP hinit
  obtain ⟨vm₁, X₁, hstep₁⟩ := X.invokestatic hexec hown hlink hnamed hmethM hstatic hkP hinitP hy (g := g) hg (argsL := argsL) (rest := rest) (hlen _ hsigM) hstack hdg
  obtain ⟨v, B, X', hpost, hsteps⟩ := hK m meth c ⟨T.setVm vm₁, locs, cells, slots⟩ { g with stack := rest } (.invokestatic index) mk argsL.toArray X₁ hg hsize hdg hW (X₁.named hnamed) (hpre vm₁ X₁.warmed)
  exact ⟨v, vm₁, B, X₁.warmed, X', hpost, fun target h => hstep₁ _ fun acts => by rw [doInvoke_state]; exact hsteps.trans h⟩
theorem vx_runSW {y : MethodName} {bytes cc : ByteArray} {maxL nL mc ms n index : Nat} {ret : Option FieldType} {hh : List (Nat × Nat × Nat × Nat)} {ws : List Cond} {rm : Room} {Pc : Array Value → State → Prop} {Qc : Array Value → State → Outcome → State → Prop} {free : Addr → Prop} {Ts : List Cond} {own : String} {As rest : List Value} {g : JFrame}
    (S : CallFix p m c cc nL s args Ts own) (hM : Met l y ws rm Pc Qc mc ms free) (cw : vx_CSW R s args own index y bytes maxL ret hh ws rm mc ms n) (hp : PreS s H Pc As)
    (hg : g.method = m) (hn : As.length = n) (hsize : g.locals.size = nL) (hstack : g.stack = As.reverse ++ rest) (hW : 2 * g.monitorRoom + (rest.map fun v => v.category).sum ≤ 8) (hdg : decode cc g.pc = .ok (.invokestatic index, 3)) (hf : cells + mc ≤ R.cells ∧ slots + ms ≤ R.slots) :
    va_Run p l e R s m args below meth c H locs cells slots mc ms g rest (Qc As.toArray) (free) := by
  obtain ⟨⟨hrc, hrs, hfr, hlo, hws, hcw⟩, hcode, hini, hy, hlen, hl, hstt⟩ := cw
  have hK : Back l R p e below s args y 3 8 (PreOf R mc ms Pc) (PostOf Qc mc ms free) := va_backW (hh := hh) (bytes := bytes) (maxL := maxL) (ret := ret) hM hp.1 hrc hrs hfr hlo hws hcw (fun a' U hW => word_at hW (Or.inl (by first | rfl | simp [Cond.onTables, Cond.keeps, Cond.steady])) hini)
  obtain ⟨hx, hb, hml, ho, -⟩ := S
  intro T hT X
  obtain ⟨v, vm₁, ⟨U', l2, c2, s2⟩, hW₁, X', ⟨g', mk, t, L, e1, e2, hq, h1, hL, h2, h3⟩, st⟩ := vx_callSW X hx (hh := hh) (bytes := bytes) (maxL := maxL) (ret := ret) ho hl hstt hini hcode hy hK hg (hsize.trans hml.symm) (argsL := As) (rest := rest) (fun sig h => hn.trans (hlen sig h)) hstack hW (by rw [hb]; exact hdg)
    (fun vm₁ hW₁ => ⟨hf.1, hf.2, hp.2 (T.setVm vm₁) hT hW₁⟩)
  dsimp only [Pt.U, Pt.locs, Pt.cells, Pt.slots] at X' e1 e2 h1 h2 h3 st
  subst h1; subst h2; subst h3
  exact ⟨v, (T.setVm vm₁).calling g' mk As.toArray, t, U', L, hT, X', hL, e1, e2, hq, st⟩
/-- not caught here, past rows that name other classes: it goes on to the caller -/
theorem vx_outP {p : Program} {l : Launch} {e : Env} {R : Room} {s : State} {m : MethodId} {args : Array Value} {below : List Frame} {meth : Method} {c : Code} {H : Heap} {locs : List Loc} {cells slots : Nat} {free : Addr → Prop} {ls : Array Slot} {rest : List Value} {Qc : Array Value → State → Outcome → State → Prop} {XC : String → State → State → Prop}
    {pc : Nat} {own E : String} {ce : Cell} {q : Addr} {mc ms : Nat} (hown : s.vm.findClass own = some m.cls) (hlocks : meth.locks = false)
    (hpass : ∀ z ∈ c.exceptionTable.toList, covers z pc = false ∨ (z.catchType ≠ 0 ∧ ∃ nm : String, (Cond.classLink own z.catchType nm).before args s = true ∧ va_Nc E nm s)) (hcell : H[q]? = some ce) (hv : ce.vm = .none) (hcl : s.vm.findClass E = some ce.cls)
    (hx : ∀ t : State, t.heap = H → s.vm.Alike t.vm → XC E s t) (hf : ∀ z ∈ locs, free z.base) (hc : cells ≤ mc) (hs : slots ≤ ms) :
    vx_W p l e R s m args below meth c H locs cells slots (vx_MQ below Qc XC args s mc ms free) (F0 m pc ls rest) q := by
  intro T hT X
  have hpl : e.platform.magicAccessors = ({} : Platform).magicAccessors := by rw [X.admits.platform]
  obtain ⟨vm', hW', X', st⟩ := X.outThrough hlocks q (g := F0 m pc ls rest) rfl rfl rfl (cell := ce) (by rw [hT]; exact hcell) (by rw [hv]; rfl)
    (by obtain ⟨k9, h9, -⟩ := Vm.findClass_spec hcl; exact ⟨k9, h9⟩) (fun z hz => by
      rcases hpass z hz with h | ⟨hz0, nm, hl1, hn1⟩
      · exact Or.inl h
      · obtain ⟨c6, hc6, hcl6⟩ := Cond.classLink_spec hown hl1 e.platform hpl
        obtain ⟨a8, b8, h1, h2, h3⟩ := hn1
        cases Option.some.inj (h1.symm.trans hcl)
        cases Option.some.inj (h2.symm.trans hc6)
        exact Or.inr ⟨hz0, _, hcl6, h3⟩)
  obtain ⟨g₀, hfr⟩ := X'.frames_eq
  have hcell9 : ((T.setVm vm').setFrames (.throwing q :: below)).heap[q]? = some ce := by
    show T.heap[q]? = some ce
    rw [hT]; exact hcell
  have hend : Ended ((T.setVm vm').setFrames (.throwing q :: below)) below (.threw q) := State.frames_setFrames _ (State.cur_lt_of_frames hfr)
  refine ⟨(T.setVm vm').setFrames (.throwing q :: below), ?_, .threw q, X'.here.running, hend, Or.inr ⟨q, rfl, E, ce, locs, hx _ hT (X'.ends _).1.alike, hcell9, hv, hcl, (X'.ends _).1, (X'.ends _).2.mono hc hs, hf⟩⟩
  rw [X.pushThrowing_eq]
  exact st
/-- a thing of a world lies in the heap -/
theorem vx_lt {D : va_G} {cl : List vw_C} {ws : va_W} {H1 : Heap} (h : va_P D cl ws H1) {k : Nat} {q : Nat × va_E} (hk : ws[k]? = some q) : q.1 < H1.size := (h k q hk).lt
end VXS
/-! ===== END ===== -/
/-! ===== BEGIN methods with a table of their own: called by a name, returning or throwing ===== -/
section VXH
/-! vx_backW, vx_callVX, vx_callSX, vx_callVW, vx_runVW, vx_runVX, vx_runSX, vx_ofWH follow the same proofs as their sisters above (Free/Laws.lean, Shelf42/LK1.lean); vx_outP calls Shelf42/NT130.lean (outThrough). -/
section
variable {l : Launch} {R : Room} {p : Program} {e : Env} {below : List Frame} {s : State} {sargs : Array Value} {y : MethodName} {len W9 : Nat}
theorem vx_backW {ws : List Cond} {rm : Room} {Pc : Array Value → State → Prop} {Qc : Array Value → State → Outcome → State → Prop} {XC : String → State → State → Prop} {mc ms : Nat} {free : Addr → Prop} {bytes : ByteArray} {maxL : Nat} {ret : Option FieldType} {hh : List (Nat × Nat × Nat × Nat)}
    (hM : vx_Met l y ws rm Pc Qc XC mc ms free) (hblind : FrameBlind Pc) (hrc : rm.cells = mc) (hrs : rm.slots = ms)
    (hframes : rm.frames + 1 ≤ R.frames) (hlocals : W9 + (maxL + 11) + rm.locals ≤ R.locals)
    (hws : ∀ w ∈ ws, ∀ a' U, s.WarmedH U.vm → w.before a' U = true) (hcode : Cond.codeWith y bytes maxL ret hh ∈ ws) (hinit : ∀ a' U, s.WarmedH U.vm → (Cond.initialized y.cls).before a' U = true) :
    vx_Back l R p e below s sargs y len W9 (PreOf R mc ms Pc) (PostOf Qc mc ms free) (vx_Post XC mc ms free) := by
  intro m meth c A g ig mk a X hg hsize hdg hW hn hp
  have h1 : (headSpec ws rm).pre.before a A.U = true := atoms_intro fun w hw => hws w hw _ _ X.warmed
  have h2 : (Cond.codeWith y bytes maxL ret hh).before a A.U = true := hws _ hcode _ _ X.warmed
  have h3 : (Cond.initialized y.cls).before a A.U = true := hinit _ _ X.warmed
  have h4 : A.cells + (headSpec ws rm).room.cells ≤ R.cells := by rw [show (headSpec ws rm).room.cells = mc from hrc]; exact hp.1
  have h5 : A.slots + (headSpec ws rm).room.slots ≤ R.slots := by rw [show (headSpec ws rm).room.slots = ms from hrs]; exact hp.2.1
  have hPc : Pc a (A.U.calling g mk a) := hblind _ _ _ _ hp.2.2
  obtain ⟨U, Ls, c0, s0⟩ := A
  dsimp only [Pt.U, Pt.locs, Pt.cells, Pt.slots] at h1 h2 h3 h4 h5 X hn hPc ⊢
  obtain ⟨m9, methY, cY, hn9, hmY, hcY, -, hlY, -⟩ := Cond.codeWith_spec h2
  cases Option.some.inj (hn9.symm.trans hn)
  obtain ⟨kY, hkY, -⟩ := className_of_methodNamed hn
  have hinitY : kY.init = .initialized := Cond.initialized_spec (findClass_of_methodNamed hn) hkY h3
  have h : At U g.method c below := by rw [hg]; exact X.here
  have hlocals9 : W9 + (maxL + 11) + (headSpec ws rm).room.locals ≤ R.locals := hlocals
  have happ : (headSpec ws rm).appliesLoose y e.platform (U.calling g mk a) = true :=
    Spec.appliesLoose_calling (g := g) h hdg hn hkY hinitY
      (X.room_calling (g := g) (R' := (headSpec ws rm).room) hsize hmY hcY hframes (by rw [hlY]; omega) h4 h5) h1
  obtain ⟨mid, hmid⟩ := h.above
  have hfr : (U.setTop g).frames = (.java g :: mid) ++ below := by rw [State.frames_setTop' g h.top, hmid]; rfl
  obtain ⟨o, s₂, hsteps, -, hend, hq⟩ := Steps.callFree hM p X.admits X.cas X.clock (acts := []) hfr happ hPc trivial
  have hq' : vx_Q Qc XC mc ms free a (U.calling g mk a) o s₂ := hq
  rw [State.frames_setTop' g h.top] at hend
  obtain ⟨g₀, hg0⟩ := Option.isSome_iff_exists.mp h.top
  obtain ⟨r, hr⟩ := State.topJava?_eq_some.mp hg0
  have hr' : (({ U with heap := s₂.heap, slotsUsed := s₂.slotsUsed } : State).setVm s₂.vm).frames = .java g₀ :: r := hr
  rcases hq' with ⟨hqc, L, hfe, hL⟩ | ⟨q, rfl, E, ce, L, hx, hce, hcv, hcl, hW₂, hsm, hL⟩
  · obtain ⟨⟨v, rfl⟩, hW₂, e2, q2, q3, q4, q5, q6⟩ := id hfe
    have e3 : s₂ = ({ (U.calling g mk a).setFrames s₂.frames with heap := s₂.heap, slotsUsed := s₂.slotsUsed } : State).setVm s₂.vm := by
      have : s₂ = ({ s₂ with vm := (U.calling g mk a).vm } : State).setVm s₂.vm := rfl
      rw [e2] at this
      exact this
    obtain ⟨c₂, i₂, len₂, hc₂, hd₂, hf₂⟩ := hend
    have hW' : U.WarmedH s₂.vm := hW₂
    have hcc : c₂ = c := by
      have h1 : s₂.code? g.method = U.code? g.method := by
        rw [State.code?_eq, State.code?_eq, hW'.alike.method?]
      exact Option.some.inj (hc₂.symm.trans (h1.trans h.code))
    subst hcc
    have hlen : len₂ = len := by rw [hdg] at hd₂; cases hd₂; rfl
    subst hlen
    have hs₂ : s₂ = (({ U with heap := s₂.heap, slotsUsed := s₂.slotsUsed } : State).setVm s₂.vm).setTop { g with pc := g.pc + len₂, stack := v.toList ++ g.stack } := by
      refine e3.trans ?_
      rw [hf₂, State.calling_eq h.top, State.setFrames_setFrames, State.setTop_of_frames _ hr', hr]
      rfl
    have hsame : U.sameButNew ({ U with heap := s₂.heap, slotsUsed := s₂.slotsUsed } : State) L mc ms := by
      refine ⟨?_, q2, q3, q4, q5, q6⟩
      obtain ⟨t, ht, -⟩ := State.frames_cons hr
      show ({ U with heap := s₂.heap, slotsUsed := s₂.slotsUsed } : State) = { U.setFrames U.frames with heap := s₂.heap, slotsUsed := s₂.slotsUsed }
      rw [State.setFrames_self ht]
    subst hg
    refine Or.inl ⟨v, ⟨(({ U with heap := s₂.heap, slotsUsed := s₂.slotsUsed } : State).setVm s₂.vm), Ls ++ L, c0 + mc, s0 + ms⟩,
      ⟨X.admits, X.cas, X.clock, X.frames, X.room, X.hears, X.method, X.code, (X.here.setHeapUsed s₂.heap s₂.slotsUsed).setVm hW'.alike, X.tail, State.WarmedH.trans X.warmed hW', X.limits, X.bytes, X.same.trans (hsame.setVm s.vm)⟩,
      ⟨g, mk, s₂, L, rfl, rfl, hqc, rfl, hL, rfl, rfl⟩, ?_⟩
    show Steps p.tables e below _ ((({ U with heap := s₂.heap, slotsUsed := s₂.slotsUsed } : State).setVm s₂.vm).setTop { g with pc := g.pc + len₂, stack := v.toList ++ g.stack })
    rw [← hs₂]
    exact hsteps
  · obtain ⟨e2, q2, q3, q4, q5, q6⟩ := id hsm
    have e3 : s₂ = ({ (U.calling g mk a).setFrames s₂.frames with heap := s₂.heap, slotsUsed := s₂.slotsUsed } : State).setVm s₂.vm := by
      have : s₂ = ({ s₂ with vm := (U.calling g mk a).vm } : State).setVm s₂.vm := rfl
      rw [e2] at this
      exact this
    have hf₂ : s₂.frames = .throwing q :: .java g :: U.frames.tail := hend
    have hW' : U.WarmedH s₂.vm := hW₂
    have hs₂ : s₂ = ((({ U with heap := s₂.heap, slotsUsed := s₂.slotsUsed } : State).setVm s₂.vm).setTop g).pushFrame (.throwing q) := by
      refine e3.trans ?_
      rw [hf₂, State.calling_eq h.top, State.setFrames_setFrames, State.pushFrame, State.frames_setTop _ hr', State.setTop_of_frames _ hr', State.setFrames_setFrames, hr]
      rfl
    have hsame : U.sameButNew ({ U with heap := s₂.heap, slotsUsed := s₂.slotsUsed } : State) L mc ms := by
      refine ⟨?_, q2, q3, q4, q5, q6⟩
      obtain ⟨t, ht, -⟩ := State.frames_cons hr
      show ({ U with heap := s₂.heap, slotsUsed := s₂.slotsUsed } : State) = { U.setFrames U.frames with heap := s₂.heap, slotsUsed := s₂.slotsUsed }
      rw [State.setFrames_self ht]
    subst hg
    refine Or.inr ⟨q, ⟨(({ U with heap := s₂.heap, slotsUsed := s₂.slotsUsed } : State).setVm s₂.vm), Ls ++ L, c0 + mc, s0 + ms⟩,
      ⟨X.admits, X.cas, X.clock, X.frames, X.room, X.hears, X.method, X.code, (X.here.setHeapUsed s₂.heap s₂.slotsUsed).setVm hW'.alike, X.tail, State.WarmedH.trans X.warmed hW', X.limits, X.bytes, X.same.trans (hsame.setVm s.vm)⟩,
      ⟨g, mk, s₂, L, E, ce, rfl, rfl, hx, hce, hcv, hcl, rfl, hL, rfl, rfl⟩, ?_⟩
    show Steps p.tables e below _ (((({ U with heap := s₂.heap, slotsUsed := s₂.slotsUsed } : State).setVm s₂.vm).setTop g).pushFrame (.throwing q))
    rw [← hs₂]
    exact hsteps
end
variable {p : Program} {l : Launch} {e : Env} {R : Room} {s : State} {m : MethodId} {args : Array Value} {below : List Frame} {meth : Method} {c : Code} {T : State} {H : Heap} {locs : List Loc} {cells slots : Nat}
theorem vx_callVX (X : Stand p l e R s m args below meth c T locs cells slots) (hexec : p.tables.exec = Jvm.exec) {own C : String} {index : Nat} {y : MethodName} {bytes : ByteArray} {maxL : Nat} {ret : Option FieldType} {hh : List (Nat × Nat × Nat × Nat)}
    (hown : s.vm.findClass own = some m.cls) (hlink : (Cond.methodLink own index y).before args s = true) (hinst : (Cond.instanceMethod y).before args s = true) (hsel : (Cond.selects C y y).before args s = true)
    (hcode : (Cond.codeWith y bytes maxL ret hh).before args s = true) (hy : y.cls ≠ "java/lang/invoke/MethodHandle" ∧ y.cls ≠ "java/lang/invoke/VarHandle")
    {W9 : Nat} {Pre : Pt → Array Value → Prop} {Post : Pt → Array Value → Option Value → Pt → Prop} {PostX : Pt → Array Value → Addr → Pt → Prop} (hK : vx_Back l R p e below s args y 3 W9 Pre Post PostX)
    {b : Addr} {cellB : Cell} (hcell : T.heap[b]? = some cellB) (hobj : cellB.vm.isStatics = false) (hcls : s.vm.findClass C = some cellB.cls)
    {g : JFrame} (hg : g.method = m) (hsize : g.locals.size = c.maxLocals) {argsL rest : List Value} (hlen : ∀ sig, parseMethodDescriptor y.desc = some sig → argsL.length = sig.parameters.length)
    (hstack : g.stack = argsL.reverse ++ .ref b :: rest) (hW : 2 * g.monitorRoom + (rest.map fun v => v.category).sum ≤ W9) (hdg : decode c.code g.pc = .ok (.invokevirtual index, 3))
    (hpre : ∀ vm₁, s.WarmedH vm₁ → Pre ⟨T.setVm vm₁, locs, cells, slots⟩ (Value.ref b :: argsL).toArray) :
    (∃ (v : Option Value) (vm₁ : Vm) (B : Pt), s.WarmedH vm₁ ∧ Stand p l e R s m args below meth c B.U B.locs B.cells B.slots ∧ Post ⟨T.setVm vm₁, locs, cells, slots⟩ (Value.ref b :: argsL).toArray v B ∧
      ∀ target, Steps p.tables e below (B.U.setTop { g with pc := g.pc + 3, stack := v.toList ++ rest }) target → Steps p.tables e below (T.setTop g) target) ∨
    (∃ (q : Addr) (vm₁ : Vm) (B : Pt), s.WarmedH vm₁ ∧ Stand p l e R s m args below meth c B.U B.locs B.cells B.slots ∧ PostX ⟨T.setVm vm₁, locs, cells, slots⟩ (Value.ref b :: argsL).toArray q B ∧
      Steps p.tables e below (T.setTop g) ((B.U.setTop { g with stack := rest }).pushFrame (.throwing q))) := by
  obtain ⟨mk, methM, hnamed, hmethM, hstM, habM⟩ := Cond.instanceMethod_spec hinst
  obtain ⟨m8, methM', cM, hn8, hmethM', -, -, -, -, -, -, hsigM⟩ := Cond.codeWith_spec hcode
  cases Option.some.inj (hn8.symm.trans hnamed)
  cases hmethM.symm.trans hmethM'
  obtain ⟨c2, r2, m2, q1, q2, q3, q4, kP, hkP, hkPi⟩ := Cond.selects_spec hsel
  cases hcls.symm.trans q1
  cases (State.methodFound?_of_named hnamed hy).symm.trans q2
  cases hnamed.symm.trans q3
  have hselP : selectMethod e.platform s.vm cellB.cls mk = .method mk := by rw [Launch.admits_selectMethod X.admits]; exact q4
  obtain ⟨vm₁, X₁, hstep₁⟩ := X.invokevirtual hexec hown hlink hnamed hmethM hstM hkP hkPi hy (a := b) (cell := cellB) hcell
    (fun z h => by rw [h] at hobj; cases hobj) hselP hmethM habM hkP hkPi (g := g) hg (argsL := argsL) (rest := rest) (hlen _ hsigM) hstack hdg
  rcases hK m meth c ⟨T.setVm vm₁, locs, cells, slots⟩ { g with stack := rest } (.invokevirtual index) mk (Value.ref b :: argsL).toArray X₁ hg hsize hdg hW (X₁.named hnamed) (hpre vm₁ X₁.warmed) with ⟨v, B, X', hpost, hsteps⟩ | ⟨q, B, X', hpost, hsteps⟩
  · exact Or.inl ⟨v, vm₁, B, X₁.warmed, X', hpost, fun target h => hstep₁ _ fun acts => by rw [doInvoke_state]; exact hsteps.trans h⟩
  · exact Or.inr ⟨q, vm₁, B, X₁.warmed, X', hpost, hstep₁ _ fun acts => by rw [doInvoke_state]; exact hsteps⟩
theorem vx_callSX (X : Stand p l e R s m args below meth c T locs cells slots) (hexec : p.tables.exec = Jvm.exec) {own : String} {index : Nat} {y : MethodName} {bytes : ByteArray} {maxL : Nat} {ret : Option FieldType} {hh : List (Nat × Nat × Nat × Nat)}
    (hown : s.vm.findClass own = some m.cls) (hlink : (Cond.methodLink own index y).before args s = true) (hstat : (Cond.static y).before args s = true) (hinit : (Cond.initialized y.cls).before args s = true)
    (hcode : (Cond.codeWith y bytes maxL ret hh).before args s = true) (hy : y.cls ≠ "java/lang/invoke/MethodHandle" ∧ y.cls ≠ "java/lang/invoke/VarHandle")
    {W9 : Nat} {Pre : Pt → Array Value → Prop} {Post : Pt → Array Value → Option Value → Pt → Prop} {PostX : Pt → Array Value → Addr → Pt → Prop} (hK : vx_Back l R p e below s args y 3 W9 Pre Post PostX)
    {g : JFrame} (hg : g.method = m) (hsize : g.locals.size = c.maxLocals) {argsL rest : List Value} (hlen : ∀ sig, parseMethodDescriptor y.desc = some sig → argsL.length = sig.parameters.length)
    (hstack : g.stack = argsL.reverse ++ rest) (hW : 2 * g.monitorRoom + (rest.map fun v => v.category).sum ≤ W9) (hdg : decode c.code g.pc = .ok (.invokestatic index, 3))
    (hpre : ∀ vm₁, s.WarmedH vm₁ → Pre ⟨T.setVm vm₁, locs, cells, slots⟩ argsL.toArray) :
    (∃ (v : Option Value) (vm₁ : Vm) (B : Pt), s.WarmedH vm₁ ∧ Stand p l e R s m args below meth c B.U B.locs B.cells B.slots ∧ Post ⟨T.setVm vm₁, locs, cells, slots⟩ argsL.toArray v B ∧
      ∀ target, Steps p.tables e below (B.U.setTop { g with pc := g.pc + 3, stack := v.toList ++ rest }) target → Steps p.tables e below (T.setTop g) target) ∨
    (∃ (q : Addr) (vm₁ : Vm) (B : Pt), s.WarmedH vm₁ ∧ Stand p l e R s m args below meth c B.U B.locs B.cells B.slots ∧ PostX ⟨T.setVm vm₁, locs, cells, slots⟩ argsL.toArray q B ∧
      Steps p.tables e below (T.setTop g) ((B.U.setTop { g with stack := rest }).pushFrame (.throwing q))) := by
  obtain ⟨mk, methM, cM, hnamed, hmethM, -, -, -, -, -, -, hsigM⟩ := Cond.codeWith_spec hcode
  have hstatic : methM.isStatic = true := Cond.static_spec hnamed hmethM hstat
  obtain ⟨kP, hkP, -⟩ := className_of_methodNamed hnamed
  have hinitP : kP.init = .initialized := Cond.initialized_spec (findClass_of_methodNamed hnamed) hkP hinit
  obtain ⟨vm₁, X₁, hstep₁⟩ := X.invokestatic hexec hown hlink hnamed hmethM hstatic hkP hinitP hy (g := g) hg (argsL := argsL) (rest := rest) (hlen _ hsigM) hstack hdg
  rcases hK m meth c ⟨T.setVm vm₁, locs, cells, slots⟩ { g with stack := rest } (.invokestatic index) mk argsL.toArray X₁ hg hsize hdg hW (X₁.named hnamed) (hpre vm₁ X₁.warmed) with ⟨v, B, X', hpost, hsteps⟩ | ⟨q, B, X', hpost, hsteps⟩
  · exact Or.inl ⟨v, vm₁, B, X₁.warmed, X', hpost, fun target h => hstep₁ _ fun acts => by rw [doInvoke_state]; exact hsteps.trans h⟩
  · exact Or.inr ⟨q, vm₁, B, X₁.warmed, X', hpost, hstep₁ _ fun acts => by rw [doInvoke_state]; exact hsteps⟩
theorem vx_callVW (X : Stand p l e R s m args below meth c T locs cells slots) (hexec : p.tables.exec = Jvm.exec) {own C : String} {index : Nat} {y : MethodName} {bytes : ByteArray} {maxL : Nat} {ret : Option FieldType} {hh : List (Nat × Nat × Nat × Nat)}
    (hown : s.vm.findClass own = some m.cls) (hlink : (Cond.methodLink own index y).before args s = true) (hinst : (Cond.instanceMethod y).before args s = true) (hsel : (Cond.selects C y y).before args s = true)
    (hcode : (Cond.codeWith y bytes maxL ret hh).before args s = true) (hy : y.cls ≠ "java/lang/invoke/MethodHandle" ∧ y.cls ≠ "java/lang/invoke/VarHandle")
    {W9 : Nat} {Pre : Pt → Array Value → Prop} {Post : Pt → Array Value → Option Value → Pt → Prop} (hK : Back l R p e below s args y 3 W9 Pre Post)
    {b : Addr} {cellB : Cell} (hcell : T.heap[b]? = some cellB) (hobj : cellB.vm.isStatics = false) (hcls : s.vm.findClass C = some cellB.cls)
    {g : JFrame} (hg : g.method = m) (hsize : g.locals.size = c.maxLocals) {argsL rest : List Value} (hlen : ∀ sig, parseMethodDescriptor y.desc = some sig → argsL.length = sig.parameters.length)
    (hstack : g.stack = argsL.reverse ++ .ref b :: rest) (hW : 2 * g.monitorRoom + (rest.map fun v => v.category).sum ≤ W9) (hdg : decode c.code g.pc = .ok (.invokevirtual index, 3))
    (hpre : ∀ vm₁, s.WarmedH vm₁ → Pre ⟨T.setVm vm₁, locs, cells, slots⟩ (Value.ref b :: argsL).toArray) :
    ∃ (v : Option Value) (vm₁ : Vm) (B : Pt), s.WarmedH vm₁ ∧ Stand p l e R s m args below meth c B.U B.locs B.cells B.slots ∧ Post ⟨T.setVm vm₁, locs, cells, slots⟩ (Value.ref b :: argsL).toArray v B ∧
      ∀ target, Steps p.tables e below (B.U.setTop { g with pc := g.pc + 3, stack := v.toList ++ rest }) target → Steps p.tables e below (T.setTop g) target := by
  obtain ⟨mk, methM, hnamed, hmethM, hstM, habM⟩ := Cond.instanceMethod_spec hinst
  obtain ⟨m8, methM', cM, hn8, hmethM', -, -, -, -, -, -, hsigM⟩ := Cond.codeWith_spec hcode
  cases Option.some.inj (hn8.symm.trans hnamed)
  cases hmethM.symm.trans hmethM'
  obtain ⟨c2, r2, m2, q1, q2, q3, q4, kP, hkP, hkPi⟩ := Cond.selects_spec hsel
  cases hcls.symm.trans q1
  cases (State.methodFound?_of_named hnamed hy).symm.trans q2
  cases hnamed.symm.trans q3
  have hselP : selectMethod e.platform s.vm cellB.cls mk = .method mk := by rw [Launch.admits_selectMethod X.admits]; exact q4
  obtain ⟨vm₁, X₁, hstep₁⟩ := X.invokevirtual hexec hown hlink hnamed hmethM hstM hkP hkPi hy (a := b) (cell := cellB) hcell
    (fun z h => by rw [h] at hobj; cases hobj) hselP hmethM habM hkP hkPi (g := g) hg (argsL := argsL) (rest := rest) (hlen _ hsigM) hstack hdg
  obtain ⟨v, B, X', hpost, hsteps⟩ := hK m meth c ⟨T.setVm vm₁, locs, cells, slots⟩ { g with stack := rest } (.invokevirtual index) mk (Value.ref b :: argsL).toArray X₁ hg hsize hdg hW (X₁.named hnamed) (hpre vm₁ X₁.warmed)
  exact ⟨v, vm₁, B, X₁.warmed, X', hpost, fun target h => hstep₁ _ fun acts => by rw [doInvoke_state]; exact hsteps.trans h⟩
abbrev vx_CVW (R : Room) (s : State) (args : Array Value) (own C : String) (index : Nat) (y : MethodName) (bytes : ByteArray) (maxL : Nat) (ret : Option FieldType) (hh : List (Nat × Nat × Nat × Nat)) (ws : List Cond) (rm : Room) (mc ms n : Nat) : Prop :=
  (rm.cells = mc ∧ rm.slots = ms ∧ rm.frames + 1 ≤ R.frames ∧ 8 + (maxL + 11) + rm.locals ≤ R.locals ∧ (∀ w ∈ ws, ∀ (a' : Array Value) (U : State), s.WarmedH U.vm → w.before a' U = true) ∧ Cond.codeWith y bytes maxL ret hh ∈ ws) ∧
  (Cond.codeWith y bytes maxL ret hh).before args s = true ∧ (Cond.initialized y.cls).before args s = true ∧ (y.cls ≠ "java/lang/invoke/MethodHandle" ∧ y.cls ≠ "java/lang/invoke/VarHandle") ∧
  (∀ sig, parseMethodDescriptor y.desc = some sig → n = sig.parameters.length) ∧ (Cond.methodLink own index y).before args s = true ∧ (Cond.instanceMethod y).before args s = true ∧ (Cond.selects C y y).before args s = true
theorem vx_cwVW {own C : String} {index maxL mc ms : Nat} {y : MethodName} {bytes : ByteArray} {ret : Option FieldType} {hh : List (Nat × Nat × Nat × Nat)} {Ts ws ws' : List Cond} {rm : Room} (n : Nat) (ht : ∀ w ∈ Ts, w.before args s = true) (hT : GoodIn Ts (wsV own index C y ws)) (hw : ws = Cond.codeWith y bytes maxL ret hh :: ws') (hrc : rm.cells = mc) (hrs : rm.slots = ms)
    (hd : y.cls = C ∧ y.cls ≠ "java/lang/invoke/MethodHandle" ∧ y.cls ≠ "java/lang/invoke/VarHandle" ∧ (parseMethodDescriptor y.desc).map (fun d => d.parameters.length) = some n) (hR : rm.frames + 1 ≤ R.frames ∧ 8 + (maxL + 11) + rm.locals ≤ R.locals) :
    vx_CVW R s args own C index y bytes maxL ret hh ws rm mc ms n := by
  obtain ⟨hC, hd⟩ := hd
  subst hC
  have ok : ∀ w ∈ wsV own index y.cls y ws, w.before args s = true := fun w h => ht w (hT w h).1
  have hG : GoodIn Ts ws := fun w h => hT w (by unfold wsV; exact List.mem_append_right _ h)
  have hc : Cond.codeWith y bytes maxL ret hh ∈ ws := by rw [hw]; exact List.mem_cons_self
  refine ⟨⟨hrc, hrs, hR.1, hR.2, pay_in ht hG, hc⟩, ht _ (hG _ hc).1, ok _ (by simp [wsV]), ⟨hd.1, hd.2.1⟩, fun sig h => ?_, ok _ (by simp [wsV]), ok _ (by simp [wsV]), ok _ (by simp [wsV])⟩
  have h2 := hd.2.2
  rw [h] at h2
  exact (Option.some.inj h2).symm
theorem vx_runVW {y : MethodName} {bytes cc : ByteArray} {maxL nL mc ms n index : Nat} {ret : Option FieldType} {hh : List (Nat × Nat × Nat × Nat)} {ws : List Cond} {rm : Room} {Pc : Array Value → State → Prop} {Qc : Array Value → State → Outcome → State → Prop} {free : Addr → Prop} {Ts : List Cond} {own C : String} {b : Addr} {As rest : List Value} {g : JFrame}
    (S : CallFix p m c cc nL s args Ts own) (hM : Met l y ws rm Pc Qc mc ms free) (cw : vx_CVW R s args own C index y bytes maxL ret hh ws rm mc ms n) (hp : PreV s H C b Pc As)
    (hg : g.method = m) (hn : As.length = n) (hsize : g.locals.size = nL) (hstack : g.stack = As.reverse ++ .ref b :: rest) (hW : 2 * g.monitorRoom + (rest.map fun v => v.category).sum ≤ 8) (hdg : decode cc g.pc = .ok (.invokevirtual index, 3)) (hf : cells + mc ≤ R.cells ∧ slots + ms ≤ R.slots) :
    va_Run p l e R s m args below meth c H locs cells slots mc ms g rest (Qc (Value.ref b :: As).toArray) free := by
  obtain ⟨⟨hrc, hrs, hfr, hlo, hws, hcw⟩, hcode, hini, hy, hlen, hl, hin, hse⟩ := cw
  have hK : Back l R p e below s args y 3 8 (PreOf R mc ms Pc) (PostOf Qc mc ms free) := va_backW (hh := hh) (bytes := bytes) (maxL := maxL) (ret := ret) hM hp.1 hrc hrs hfr hlo hws hcw (fun a' U hW => word_at hW (Or.inl (by first | rfl | simp [Cond.onTables, Cond.keeps, Cond.steady])) hini)
  obtain ⟨hx, hb, hml, ho, -⟩ := S
  obtain ⟨-, ⟨cellB, hcB, hoB, hclB⟩, hPc⟩ := hp
  intro T hT X
  obtain ⟨v, vm₁, ⟨U', l2, c2, s2⟩, hW₁, X', ⟨g', mk, t, L, e1, e2, hq, h1, hL, h2, h3⟩, st⟩ := vx_callVW X hx (C := C) (hh := hh) (bytes := bytes) (maxL := maxL) (ret := ret) ho hl hin hse hcode hy hK (by rw [hT]; exact hcB) hoB hclB hg (hsize.trans hml.symm) (argsL := As) (rest := rest) (fun sig h => hn.trans (hlen sig h)) hstack hW (by rw [hb]; exact hdg)
    (fun vm₁ hW₁ => ⟨hf.1, hf.2, hPc (T.setVm vm₁) hT hW₁⟩)
  dsimp only [Pt.U, Pt.locs, Pt.cells, Pt.slots] at X' e1 e2 h1 h2 h3 st
  subst h1; subst h2; subst h3
  exact ⟨v, (T.setVm vm₁).calling g' mk (Value.ref b :: As).toArray, t, U', L, hT, X', hL, e1, e2, hq, st⟩
section
variable {y : MethodName} {bytes cc : ByteArray} {maxL nL mc ms n index : Nat} {ret : Option FieldType} {ws : List Cond} {rm : Room} {Pc : Array Value → State → Prop} {Qc : Array Value → State → Outcome → State → Prop} {XC : String → State → State → Prop} {free : Addr → Prop} {Ts : List Cond} {own C : String} {b : Addr} {As rest : List Value} {g : JFrame}
theorem vx_runVX {hh : List (Nat × Nat × Nat × Nat)} (S : CallFix p m c cc nL s args Ts own) (hM : vx_Met l y ws rm Pc Qc XC mc ms free) (cw : vx_CVW R s args own C index y bytes maxL ret hh ws rm mc ms n) (hp : PreV s H C b Pc As)
    (hg : g.method = m) (hn : As.length = n) (hsize : g.locals.size = nL) (hstack : g.stack = As.reverse ++ .ref b :: rest) (hW : 2 * g.monitorRoom + (rest.map fun v => v.category).sum ≤ 8) (hdg : decode cc g.pc = .ok (.invokevirtual index, 3)) (hf : cells + mc ≤ R.cells ∧ slots + ms ≤ R.slots) :
    vx_Run p l e R s m args below meth c H locs cells slots mc ms g rest (Qc (Value.ref b :: As).toArray) XC free := by
  obtain ⟨⟨hrc, hrs, hfr, hlo, hws, hcw⟩, hcode, hini, hy, hlen, hl, hin, hse⟩ := cw
  have hK : vx_Back l R p e below s args y 3 8 (PreOf R mc ms Pc) (PostOf Qc mc ms free) (vx_Post XC mc ms free) := vx_backW (hh := hh) (bytes := bytes) (maxL := maxL) (ret := ret) hM hp.1 hrc hrs hfr hlo hws hcw (fun a' U hW => word_at hW (Or.inl (by first | rfl | simp [Cond.onTables, Cond.keeps, Cond.steady])) hini)
  obtain ⟨hx, hb, hml, ho, -⟩ := S
  obtain ⟨-, ⟨cellB, hcB, hoB, hclB⟩, hPc⟩ := hp
  intro T hT X
  rcases vx_callVX X hx (C := C) (hh := hh) (bytes := bytes) (maxL := maxL) (ret := ret) ho hl hin hse hcode hy hK (by rw [hT]; exact hcB) hoB hclB hg (hsize.trans hml.symm) (argsL := As) (rest := rest) (fun sig h => hn.trans (hlen sig h)) hstack hW (by rw [hb]; exact hdg)
    (fun vm₁ hW₁ => ⟨hf.1, hf.2, hPc (T.setVm vm₁) hT hW₁⟩) with ⟨v, vm₁, ⟨U', l2, c2, s2⟩, hW₁, X', ⟨g', mk, t, L, e1, e2, hq, h1, hL, h2, h3⟩, st⟩ | ⟨q, vm₁, ⟨U', l2, c2, s2⟩, hW₁, X', ⟨g', mk, t, L, E, ce, e1, e2, hq, hce, hcv, hcl, h1, hL, h2, h3⟩, st⟩
  · dsimp only [Pt.U, Pt.locs, Pt.cells, Pt.slots] at X' e1 e2 h1 h2 h3 st
    subst h1; subst h2; subst h3
    exact Or.inl ⟨v, (T.setVm vm₁).calling g' mk (Value.ref b :: As).toArray, t, U', L, hT, X', hL, e1, e2, hq, st⟩
  · dsimp only [Pt.U, Pt.locs, Pt.cells, Pt.slots] at X' e1 e2 h1 h2 h3 st hcl
    subst h1; subst h2; subst h3
    exact Or.inr ⟨q, (T.setVm vm₁).calling g' mk (Value.ref b :: As).toArray, t, U', L, E, ce, hT, X', hL, e1, e2, hq, hce, hcv, vx_cls hW₁ hcl, st⟩
theorem vx_runSX {hh : List (Nat × Nat × Nat × Nat)} (S : CallFix p m c cc nL s args Ts own) (hM : vx_Met l y ws rm Pc Qc XC mc ms free) (cw : vx_CSW R s args own index y bytes maxL ret hh ws rm mc ms n) (hp : PreS s H Pc As)
    (hg : g.method = m) (hn : As.length = n) (hsize : g.locals.size = nL) (hstack : g.stack = As.reverse ++ rest) (hW : 2 * g.monitorRoom + (rest.map fun v => v.category).sum ≤ 8) (hdg : decode cc g.pc = .ok (.invokestatic index, 3)) (hf : cells + mc ≤ R.cells ∧ slots + ms ≤ R.slots) :
    vx_Run p l e R s m args below meth c H locs cells slots mc ms g rest (Qc As.toArray) XC free := by
  obtain ⟨⟨hrc, hrs, hfr, hlo, hws, hcw⟩, hcode, hini, hy, hlen, hl, hstt⟩ := cw
  have hK : vx_Back l R p e below s args y 3 8 (PreOf R mc ms Pc) (PostOf Qc mc ms free) (vx_Post XC mc ms free) := vx_backW (hh := hh) (bytes := bytes) (maxL := maxL) (ret := ret) hM hp.1 hrc hrs hfr hlo hws hcw (fun a' U hW => word_at hW (Or.inl (by first | rfl | simp [Cond.onTables, Cond.keeps, Cond.steady])) hini)
  obtain ⟨hx, hb, hml, ho, -⟩ := S
  intro T hT X
  rcases vx_callSX X hx (hh := hh) (bytes := bytes) (maxL := maxL) (ret := ret) ho hl hstt hini hcode hy hK hg (hsize.trans hml.symm) (argsL := As) (rest := rest) (fun sig h => hn.trans (hlen sig h)) hstack hW (by rw [hb]; exact hdg)
    (fun vm₁ hW₁ => ⟨hf.1, hf.2, hp.2 (T.setVm vm₁) hT hW₁⟩) with ⟨v, vm₁, ⟨U', l2, c2, s2⟩, hW₁, X', ⟨g', mk, t, L, e1, e2, hq, h1, hL, h2, h3⟩, st⟩ | ⟨q, vm₁, ⟨U', l2, c2, s2⟩, hW₁, X', ⟨g', mk, t, L, E, ce, e1, e2, hq, hce, hcv, hcl, h1, hL, h2, h3⟩, st⟩
  · dsimp only [Pt.U, Pt.locs, Pt.cells, Pt.slots] at X' e1 e2 h1 h2 h3 st
    subst h1; subst h2; subst h3
    exact Or.inl ⟨v, (T.setVm vm₁).calling g' mk As.toArray, t, U', L, hT, X', hL, e1, e2, hq, st⟩
  · dsimp only [Pt.U, Pt.locs, Pt.cells, Pt.slots] at X' e1 e2 h1 h2 h3 st hcl
    subst h1; subst h2; subst h3
    exact Or.inr ⟨q, (T.setVm vm₁).calling g' mk As.toArray, t, U', L, E, ce, hT, X', hL, e1, e2, hq, hce, hcv, vx_cls hW₁ hcl, st⟩
end
end VXH
theorem vx_ofWH {l : Launch} {y : MethodName} {ws ws' : List Cond} {rm : Room} {Pc : Array Value → State → Prop} {Qc : Array Value → State → Outcome → State → Prop} {XC : String → State → State → Prop} {mc ms : Nat} {free : Addr → Prop} {cc : ByteArray} {maxL : Nat} {ret : Option FieldType} {hh : List (Nat × Nat × Nat × Nat)}
    (hy : plainName y.cls = true) (hw : ws = Cond.codeWith y cc maxL ret hh :: ws')
    (body : ∀ p e s m args below meth c s₁, BodyLoose p l y (headSpec ws rm) cc maxL ret e s m args below meth c s₁ → c.maxLocals = maxL → Pc args s →
      W p l e (headSpec ws rm).room s m args below meth c s.heap [] 0 0 (vx_MQ below Qc XC args s mc ms free) (entryFrame m args maxL)) : vx_Met l y ws rm Pc Qc XC mc ms free := by
  refine MetFree.of_bodyS (code := cc) (maxLocals := maxL) (ret := ret) hy ?_ ?_
  · intro args s m h hn
    obtain ⟨m9, meth, c, hn9, h1, h2, h3, h4, -, h5, h6, -⟩ := Cond.codeWith_spec (atoms_spec (ws := ws) h _ (by rw [hw]; exact List.mem_cons_self))
    cases hn.symm.trans hn9
    exact ⟨meth, c, h1, h2, h3, h4, h5, h6⟩
  · intro p e s m args below meth c s₁ B hml hP _
    have hh0 : s₁.heap = s.heap := by rw [B.state]; rfl
    obtain ⟨t, a1, o, b1, b2, b3⟩ := body p e s m args below meth c s₁ B hml hP s₁ hh0 (Stand.of_body B)
    exact ⟨t, o, a1, b1, b2, b3⟩
/-! ===== END ===== -/
end
section

/-! ===== BEGIN printed: names, fields, word lists, decode rows ===== -/
def RX0 : String := "CircleOfLeaves$Article"
def TX0 : u_T := fun k => match k with
  | 0 => ("CircleOfLeaves$Article", "headword", "LCircleOfLeaves$Headword;", true)
  | 1 => ("CircleOfLeaves$Article", "references", "[LCircleOfLeaves$Reference;", true)
  | 2 => ("CircleOfLeaves$Article", "usesFact", "[Z", true)
  | 3 => ("CircleOfLeaves$Article", "toldValues", "[I", true)
  | 4 => ("CircleOfLeaves$Article", "referenceCount", "I", false)
  | 5 => ("CircleOfLeaves$Article", "subject", "I", false)
  | 6 => ("CircleOfLeaves$Article", "worth", "I", false)
  | 7 => ("CircleOfLeaves$Article", "contributor", "I", false)
  | 8 => ("CircleOfLeaves$Article", "endMonth", "I", false)
  | 9 => ("CircleOfLeaves$Article", "hasText", "Z", false)
  | 10 => ("CircleOfLeaves$Article", "isForbidden", "Z", false)
  | _ => ("CircleOfLeaves$Article", "isPrinted", "Z", false)
def tyX0 : Nat → FieldType := fun k => match k with
  | 0 => .object "CircleOfLeaves$Headword"
  | 1 => .array (.object "CircleOfLeaves$Reference")
  | 2 => .array .boolean
  | 3 => .array .int
  | 4 => .int
  | 5 => .int
  | 6 => .int
  | 7 => .int
  | 8 => .int
  | 9 => .boolean
  | 10 => .boolean
  | _ => .boolean
abbrev wsX00 : List Cond := u_ws RX0 TX0 12
theorem nmX0 : ∀ a, a < 12 → ∀ b, b < 12 → a ≠ b → (TX0 a).2.1 ≠ (TX0 b).2.1 := by decide +kernel
theorem tyX0_ok : ∀ k, k < 12 → parseFieldDescriptor (TX0 k).2.2.1 = some (tyX0 k) := by decide +kernel
abbrev cX0_init : ByteArray := prog_2_method_1_code
def yX0_init : MethodName := ⟨RX0, "<init>", "()V"⟩
abbrev cX0_isBlind : ByteArray := prog_2_method_2_code
def yX0_isBlind : MethodName := ⟨RX0, "isBlind", "()Z"⟩
abbrev cX0_isReady : ByteArray := prog_2_method_3_code
def yX0_isReady : MethodName := ⟨RX0, "isReady", "()Z"⟩
abbrev cX0_isReadIn : ByteArray := prog_2_method_4_code
def yX0_isReadIn : MethodName := ⟨RX0, "isReadIn", "(Z)Z"⟩
abbrev cX0_state : ByteArray := prog_2_method_5_code
def yX0_state : MethodName := ⟨RX0, "state", "()I"⟩
abbrev cX0_putToPress : ByteArray := prog_2_method_6_code
def yX0_putToPress : MethodName := ⟨RX0, "putToPress", "([I)V"⟩
abbrev cX0_countReferences : ByteArray := prog_2_method_7_code
def yX0_countReferences : MethodName := ⟨RX0, "countReferences", "(LCircleOfLeaves$Fate;)I"⟩
def RX1 : String := "CircleOfLeaves$Contributor"
def TX1 : u_T := fun k => match k with
  | 0 => ("CircleOfLeaves$Contributor", "toWrite", "[I", true)
  | 1 => ("CircleOfLeaves$Contributor", "hasQuarrelledWith", "[Z", true)
  | 2 => ("CircleOfLeaves$Contributor", "toWriteCount", "I", false)
  | 3 => ("CircleOfLeaves$Contributor", "pace", "I", false)
  | 4 => ("CircleOfLeaves$Contributor", "errataOwned", "I", false)
  | _ => ("CircleOfLeaves$Contributor", "isDead", "Z", false)
def tyX1 : Nat → FieldType := fun k => match k with
  | 0 => .array .int
  | 1 => .array .boolean
  | 2 => .int
  | 3 => .int
  | 4 => .int
  | _ => .boolean
abbrev wsX10 : List Cond := u_ws RX1 TX1 6
theorem nmX1 : ∀ a, a < 6 → ∀ b, b < 6 → a ≠ b → (TX1 a).2.1 ≠ (TX1 b).2.1 := by decide +kernel
theorem tyX1_ok : ∀ k, k < 6 → parseFieldDescriptor (TX1 k).2.2.1 = some (tyX1 k) := by decide +kernel
abbrev cX1_init : ByteArray := prog_3_method_1_code
def yX1_init : MethodName := ⟨RX1, "<init>", "()V"⟩
abbrev cX1_addToWrite : ByteArray := prog_3_method_2_code
def yX1_addToWrite : MethodName := ⟨RX1, "addToWrite", "(I)V"⟩
abbrev cX1_removeFirst : ByteArray := prog_3_method_3_code
def yX1_removeFirst : MethodName := ⟨RX1, "removeFirst", "()V"⟩
abbrev cX1_monthsFor : ByteArray := prog_3_method_4_code
def yX1_monthsFor : MethodName := ⟨RX1, "monthsFor", "(I)I"⟩
def RX2 : String := "CircleOfLeaves$Fate"
def TX2 : u_T := fun k => match k with
  | _ => ("", "", "", false)
def tyX2 : Nat → FieldType := fun k => match k with
  | _ => .int
abbrev wsX20 : List Cond := u_ws RX2 TX2 0
theorem nmX2 : ∀ a, a < 0 → ∀ b, b < 0 → a ≠ b → (TX2 a).2.1 ≠ (TX2 b).2.1 := by decide +kernel
theorem tyX2_ok : ∀ k, k < 0 → parseFieldDescriptor (TX2 k).2.2.1 = some (tyX2 k) := by decide +kernel
def RX3 : String := "CircleOfLeaves$Headword"
def TX3 : u_T := fun k => match k with
  | 0 => ("CircleOfLeaves$Headword", "signs", "[C", true)
  | 1 => ("CircleOfLeaves$Headword", "letters", "[C", true)
  | 2 => ("CircleOfLeaves$Headword", "signCount", "I", false)
  | _ => ("CircleOfLeaves$Headword", "letterCount", "I", false)
def tyX3 : Nat → FieldType := fun k => match k with
  | 0 => .array .char
  | 1 => .array .char
  | 2 => .int
  | _ => .int
abbrev wsX30 : List Cond := u_ws RX3 TX3 4
theorem nmX3 : ∀ a, a < 4 → ∀ b, b < 4 → a ≠ b → (TX3 a).2.1 ≠ (TX3 b).2.1 := by decide +kernel
theorem tyX3_ok : ∀ k, k < 4 → parseFieldDescriptor (TX3 k).2.2.1 = some (tyX3 k) := by decide +kernel
abbrev cX3_init : ByteArray := prog_5_method_1_code
def yX3_init : MethodName := ⟨RX3, "<init>", "()V"⟩
abbrev cX3_add : ByteArray := prog_5_method_2_code
def yX3_add : MethodName := ⟨RX3, "add", "(C)V"⟩
abbrev cX3_clear : ByteArray := prog_5_method_3_code
def yX3_clear : MethodName := ⟨RX3, "clear", "()V"⟩
abbrev cX3_take : ByteArray := prog_5_method_4_code
def yX3_take : MethodName := ⟨RX3, "take", "(LCircleOfLeaves$Headword;)V"⟩
abbrev cX3_hasLetter : ByteArray := prog_5_method_5_code
def yX3_hasLetter : MethodName := ⟨RX3, "hasLetter", "()Z"⟩
abbrev cX3_firstLetter : ByteArray := prog_5_method_6_code
def yX3_firstLetter : MethodName := ⟨RX3, "firstLetter", "()C"⟩
abbrev cX3_compareBy : ByteArray := prog_5_method_7_code
def yX3_compareBy : MethodName := ⟨RX3, "compareBy", "(ZLCircleOfLeaves$Headword;)I"⟩
def RX4 : String := "CircleOfLeaves$Reference"
def TX4 : u_T := fun k => match k with
  | 0 => ("CircleOfLeaves$Reference", "headword", "LCircleOfLeaves$Headword;", true)
  | _ => ("CircleOfLeaves$Reference", "fate", "LCircleOfLeaves$Fate;", false)
def tyX4 : Nat → FieldType := fun k => match k with
  | 0 => .object "CircleOfLeaves$Headword"
  | _ => .object "CircleOfLeaves$Fate"
abbrev wsX40 : List Cond := u_ws RX4 TX4 2
theorem nmX4 : ∀ a, a < 2 → ∀ b, b < 2 → a ≠ b → (TX4 a).2.1 ≠ (TX4 b).2.1 := by decide +kernel
theorem tyX4_ok : ∀ k, k < 2 → parseFieldDescriptor (TX4 k).2.2.1 = some (tyX4 k) := by decide +kernel
abbrev cX4_init : ByteArray := prog_6_method_1_code
def yX4_init : MethodName := ⟨RX4, "<init>", "()V"⟩
def RX5 : String := "CircleOfLeaves$Volume"
def TX5 : u_T := fun k => match k with
  | 0 => ("CircleOfLeaves$Volume", "lastLetter", "C", false)
  | _ => ("CircleOfLeaves$Volume", "budget", "I", false)
def tyX5 : Nat → FieldType := fun k => match k with
  | 0 => .char
  | _ => .int
abbrev wsX50 : List Cond := u_ws RX5 TX5 2
theorem nmX5 : ∀ a, a < 2 → ∀ b, b < 2 → a ≠ b → (TX5 a).2.1 ≠ (TX5 b).2.1 := by decide +kernel
theorem tyX5_ok : ∀ k, k < 2 → parseFieldDescriptor (TX5 k).2.2.1 = some (tyX5 k) := by decide +kernel
abbrev cX5_init : ByteArray := prog_7_method_1_code
def yX5_init : MethodName := ⟨RX5, "<init>", "()V"⟩
def RX6 : String := "CircleOfLeaves"
def TX6 : u_T := fun k => match k with
  | 0 => ("CircleOfLeaves", "draft", "LCircleOfLeaves$Headword;", true)
  | 1 => ("CircleOfLeaves", "articles", "[LCircleOfLeaves$Article;", true)
  | 2 => ("CircleOfLeaves", "volumes", "[LCircleOfLeaves$Volume;", true)
  | 3 => ("CircleOfLeaves", "contributors", "[LCircleOfLeaves$Contributor;", true)
  | 4 => ("CircleOfLeaves", "subjectAbove", "[I", true)
  | 5 => ("CircleOfLeaves", "factValues", "[I", true)
  | 6 => ("CircleOfLeaves", "articleCount", "I", false)
  | 7 => ("CircleOfLeaves", "volumeCount", "I", false)
  | 8 => ("CircleOfLeaves", "printedVolumes", "I", false)
  | 9 => ("CircleOfLeaves", "contributorCount", "I", false)
  | 10 => ("CircleOfLeaves", "monthNow", "I", false)
  | _ => ("CircleOfLeaves", "isRuledByWords", "Z", false)
def tyX6 : Nat → FieldType := fun k => match k with
  | 0 => .object "CircleOfLeaves$Headword"
  | 1 => .array (.object "CircleOfLeaves$Article")
  | 2 => .array (.object "CircleOfLeaves$Volume")
  | 3 => .array (.object "CircleOfLeaves$Contributor")
  | 4 => .array .int
  | 5 => .array .int
  | 6 => .int
  | 7 => .int
  | 8 => .int
  | 9 => .int
  | 10 => .int
  | _ => .boolean
abbrev wsX60 : List Cond := u_ws RX6 TX6 12
theorem nmX6 : ∀ a, a < 12 → ∀ b, b < 12 → a ≠ b → (TX6 a).2.1 ≠ (TX6 b).2.1 := by decide +kernel
theorem tyX6_ok : ∀ k, k < 12 → parseFieldDescriptor (TX6 k).2.2.1 = some (tyX6 k) := by decide +kernel
abbrev cX6_init : ByteArray := prog_1_method_1_code
def yX6_init : MethodName := ⟨RX6, "<init>", "()V"⟩
abbrev cX6_sign : ByteArray := prog_1_method_2_code
def yX6_sign : MethodName := ⟨RX6, "sign", "(C)I"⟩
abbrev cX6_erase : ByteArray := prog_1_method_3_code
def yX6_erase : MethodName := ⟨RX6, "erase", "()I"⟩
abbrev cX6_rule : ByteArray := prog_1_method_4_code
def yX6_rule : MethodName := ⟨RX6, "rule", "(Z)Z"⟩
abbrev cX6_article : ByteArray := prog_1_method_5_code
def yX6_article : MethodName := ⟨RX6, "article", "(II)I"⟩
abbrev cX6_under : ByteArray := prog_1_method_6_code
def yX6_under : MethodName := ⟨RX6, "under", "(II)I"⟩
abbrev cX6_refer : ByteArray := prog_1_method_7_code
def yX6_refer : MethodName := ⟨RX6, "refer", "(I)I"⟩
abbrev cX6_use : ByteArray := prog_1_method_8_code
def yX6_use : MethodName := ⟨RX6, "use", "(II)Z"⟩
abbrev cX6_change : ByteArray := prog_1_method_9_code
def yX6_change : MethodName := ⟨RX6, "change", "(II)I"⟩
abbrev cX6_forbid : ByteArray := prog_1_method_10_code
def yX6_forbid : MethodName := ⟨RX6, "forbid", "(IZ)Z"⟩
abbrev cX6_volume : ByteArray := prog_1_method_11_code
def yX6_volume : MethodName := ⟨RX6, "volume", "(CI)I"⟩
abbrev cX6_contributor : ByteArray := prog_1_method_12_code
def yX6_contributor : MethodName := ⟨RX6, "contributor", "(I)I"⟩
abbrev cX6_quarrel : ByteArray := prog_1_method_13_code
def yX6_quarrel : MethodName := ⟨RX6, "quarrel", "(II)Z"⟩
abbrev cX6_give : ByteArray := prog_1_method_14_code
def yX6_give : MethodName := ⟨RX6, "give", "(II)I"⟩
abbrev cX6_die : ByteArray := prog_1_method_15_code
def yX6_die : MethodName := ⟨RX6, "die", "(I)I"⟩
abbrev cX6_pass : ByteArray := prog_1_method_16_code
def yX6_pass : MethodName := ⟨RX6, "pass", "(I)I"⟩
abbrev cX6_print : ByteArray := prog_1_method_17_code
def yX6_print : MethodName := ⟨RX6, "print", "(I)I"⟩
abbrev cX6_supplement : ByteArray := prog_1_method_18_code
def yX6_supplement : MethodName := ⟨RX6, "supplement", "()I"⟩
abbrev cX6_month : ByteArray := prog_1_method_19_code
def yX6_month : MethodName := ⟨RX6, "month", "()I"⟩
abbrev cX6_at : ByteArray := prog_1_method_20_code
def yX6_at : MethodName := ⟨RX6, "at", "(I)I"⟩
abbrev cX6_about : ByteArray := prog_1_method_21_code
def yX6_about : MethodName := ⟨RX6, "about", "(II)I"⟩
abbrev cX6_struck : ByteArray := prog_1_method_22_code
def yX6_struck : MethodName := ⟨RX6, "struck", "()I"⟩
abbrev cX6_errata : ByteArray := prog_1_method_23_code
def yX6_errata : MethodName := ⟨RX6, "errata", "(I)I"⟩
abbrev cX6_open : ByteArray := prog_1_method_24_code
def yX6_open : MethodName := ⟨RX6, "open", "(Z)I"⟩
abbrev cX6_contradictions : ByteArray := prog_1_method_25_code
def yX6_contradictions : MethodName := ⟨RX6, "contradictions", "(Z)I"⟩
abbrev cX6_readAnew : ByteArray := prog_1_method_26_code
def yX6_readAnew : MethodName := ⟨RX6, "readAnew", "(Z)I"⟩
abbrev cX6_synopsis : ByteArray := prog_1_method_27_code
def yX6_synopsis : MethodName := ⟨RX6, "synopsis", "(I)I"⟩
abbrev cX6_requireArticle : ByteArray := prog_1_method_28_code
def yX6_requireArticle : MethodName := ⟨RX6, "requireArticle", "(I)V"⟩
abbrev cX6_requireVolume : ByteArray := prog_1_method_29_code
def yX6_requireVolume : MethodName := ⟨RX6, "requireVolume", "(I)V"⟩
abbrev cX6_requireContributor : ByteArray := prog_1_method_30_code
def yX6_requireContributor : MethodName := ⟨RX6, "requireContributor", "(I)V"⟩
abbrev cX6_requireSubject : ByteArray := prog_1_method_31_code
def yX6_requireSubject : MethodName := ⟨RX6, "requireSubject", "(I)V"⟩
abbrev cX6_requireFact : ByteArray := prog_1_method_32_code
def yX6_requireFact : MethodName := ⟨RX6, "requireFact", "(I)V"⟩
abbrev cX6_isLetter : ByteArray := prog_1_method_33_code
def yX6_isLetter : MethodName := ⟨RX6, "isLetter", "(C)Z"⟩
abbrev cX6_isGap : ByteArray := prog_1_method_34_code
def yX6_isGap : MethodName := ⟨RX6, "isGap", "(C)Z"⟩
abbrev cX6_areAlike : ByteArray := prog_1_method_35_code
def yX6_areAlike : MethodName := ⟨RX6, "areAlike", "(LCircleOfLeaves$Headword;LCircleOfLeaves$Headword;)Z"⟩
abbrev cX6_comesAhead : ByteArray := prog_1_method_36_code
def yX6_comesAhead : MethodName := ⟨RX6, "comesAhead", "(II)Z"⟩
abbrev cX6_placeOf : ByteArray := prog_1_method_37_code
def yX6_placeOf : MethodName := ⟨RX6, "placeOf", "(I)I"⟩
abbrev cX6_volumeOf : ByteArray := prog_1_method_38_code
def yX6_volumeOf : MethodName := ⟨RX6, "volumeOf", "(LCircleOfLeaves$Headword;)I"⟩
abbrev cX6_isOfPrintedVolume : ByteArray := prog_1_method_39_code
def yX6_isOfPrintedVolume : MethodName := ⟨RX6, "isOfPrintedVolume", "(LCircleOfLeaves$Headword;)Z"⟩
abbrev cX6_columnsOf : ByteArray := prog_1_method_40_code
def yX6_columnsOf : MethodName := ⟨RX6, "columnsOf", "(I)I"⟩
abbrev cX6_worthsIn : ByteArray := prog_1_method_41_code
def yX6_worthsIn : MethodName := ⟨RX6, "worthsIn", "(I)I"⟩
abbrev cX6_isToBeGiven : ByteArray := prog_1_method_42_code
def yX6_isToBeGiven : MethodName := ⟨RX6, "isToBeGiven", "(LCircleOfLeaves$Article;)Z"⟩
abbrev cX6_isAmongEnemies : ByteArray := prog_1_method_43_code
def yX6_isAmongEnemies : MethodName := ⟨RX6, "isAmongEnemies", "(LCircleOfLeaves$Article;LCircleOfLeaves$Contributor;)Z"⟩
abbrev cX6_refersTo : ByteArray := prog_1_method_44_code
def yX6_refersTo : MethodName := ⟨RX6, "refersTo", "(LCircleOfLeaves$Article;LCircleOfLeaves$Article;)Z"⟩
abbrev cX6_beginFirst : ByteArray := prog_1_method_45_code
def yX6_beginFirst : MethodName := ⟨RX6, "beginFirst", "(LCircleOfLeaves$Contributor;)V"⟩
abbrev cX6_endsAnArticle : ByteArray := prog_1_method_46_code
def yX6_endsAnArticle : MethodName := ⟨RX6, "endsAnArticle", "(LCircleOfLeaves$Contributor;)Z"⟩
abbrev cX6_putToPressFrom : ByteArray := prog_1_method_47_code
def yX6_putToPressFrom : MethodName := ⟨RX6, "putToPressFrom", "(I)I"⟩
abbrev cX6_lookAtReferences : ByteArray := prog_1_method_48_code
def yX6_lookAtReferences : MethodName := ⟨RX6, "lookAtReferences", "()V"⟩
abbrev cX6_fateOf : ByteArray := prog_1_method_49_code
def yX6_fateOf : MethodName := ⟨RX6, "fateOf", "(LCircleOfLeaves$Headword;)LCircleOfLeaves$Fate;"⟩
abbrev cX6_isThere : ByteArray := prog_1_method_50_code
def yX6_isThere : MethodName := ⟨RX6, "isThere", "(LCircleOfLeaves$Headword;)Z"⟩
abbrev cX6_isBroken : ByteArray := prog_1_method_51_code
def yX6_isBroken : MethodName := ⟨RX6, "isBroken", "(LCircleOfLeaves$Reference;)Z"⟩
abbrev cX6_countBroken : ByteArray := prog_1_method_52_code
def yX6_countBroken : MethodName := ⟨RX6, "countBroken", "(LCircleOfLeaves$Article;)I"⟩
abbrev cX6_tellFacts : ByteArray := prog_1_method_53_code
def yX6_tellFacts : MethodName := ⟨RX6, "tellFacts", "()I"⟩
abbrev cX6_addErratum : ByteArray := prog_1_method_54_code
def yX6_addErratum : MethodName := ⟨RX6, "addErratum", "(I)V"⟩
abbrev cX6_tellPromises : ByteArray := prog_1_method_55_code
def yX6_tellPromises : MethodName := ⟨RX6, "tellPromises", "()I"⟩
abbrev cX6_isContradicted : ByteArray := prog_1_method_56_code
def yX6_isContradicted : MethodName := ⟨RX6, "isContradicted", "(IZ)Z"⟩
abbrev cX6_isWithin : ByteArray := prog_1_method_57_code
def yX6_isWithin : MethodName := ⟨RX6, "isWithin", "(II)Z"⟩
def RX7 : String := "CircleOfLeavesModel"
def TX7 : u_T := fun k => match k with
  | 0 => ("CircleOfLeavesModel", "isByWords", "Z", false)
  | 1 => ("CircleOfLeavesModel", "signs", "[I", true)
  | 2 => ("CircleOfLeavesModel", "longs", "[I", true)
  | 3 => ("CircleOfLeavesModel", "articles", "I", false)
  | 4 => ("CircleOfLeavesModel", "subjects", "[I", true)
  | 5 => ("CircleOfLeavesModel", "worths", "[I", true)
  | 6 => ("CircleOfLeavesModel", "states", "[I", true)
  | 7 => ("CircleOfLeavesModel", "writers", "[I", true)
  | 8 => ("CircleOfLeavesModel", "due", "[I", true)
  | 9 => ("CircleOfLeavesModel", "nth", "[I", true)
  | 10 => ("CircleOfLeavesModel", "isForbidden", "[Z", true)
  | 11 => ("CircleOfLeavesModel", "references", "[I", true)
  | 12 => ("CircleOfLeavesModel", "looked", "[I", true)
  | 13 => ("CircleOfLeavesModel", "uses", "[Z", true)
  | 14 => ("CircleOfLeavesModel", "told", "[I", true)
  | 15 => ("CircleOfLeavesModel", "above", "[I", true)
  | 16 => ("CircleOfLeavesModel", "facts", "[I", true)
  | 17 => ("CircleOfLeavesModel", "volumes", "I", false)
  | 18 => ("CircleOfLeavesModel", "lasts", "[I", true)
  | 19 => ("CircleOfLeavesModel", "budgets", "[I", true)
  | 20 => ("CircleOfLeavesModel", "printed", "I", false)
  | 21 => ("CircleOfLeavesModel", "contributors", "I", false)
  | 22 => ("CircleOfLeavesModel", "paces", "[I", true)
  | 23 => ("CircleOfLeavesModel", "isDead", "[Z", true)
  | 24 => ("CircleOfLeavesModel", "quarrels", "[Z", true)
  | 25 => ("CircleOfLeavesModel", "errata", "[I", true)
  | 26 => ("CircleOfLeavesModel", "given", "I", false)
  | 27 => ("CircleOfLeavesModel", "month", "I", false)
  | 28 => ("CircleOfLeavesModel", "struck", "I", false)
  | _ => ("CircleOfLeavesModel", "thrown", "I", false)
def tyX7 : Nat → FieldType := fun k => match k with
  | 0 => .boolean
  | 1 => .array .int
  | 2 => .array .int
  | 3 => .int
  | 4 => .array .int
  | 5 => .array .int
  | 6 => .array .int
  | 7 => .array .int
  | 8 => .array .int
  | 9 => .array .int
  | 10 => .array .boolean
  | 11 => .array .int
  | 12 => .array .int
  | 13 => .array .boolean
  | 14 => .array .int
  | 15 => .array .int
  | 16 => .array .int
  | 17 => .int
  | 18 => .array .int
  | 19 => .array .int
  | 20 => .int
  | 21 => .int
  | 22 => .array .int
  | 23 => .array .boolean
  | 24 => .array .boolean
  | 25 => .array .int
  | 26 => .int
  | 27 => .int
  | 28 => .int
  | _ => .int
abbrev wsX70 : List Cond := u_ws RX7 TX7 30
theorem nmX7 : ∀ a, a < 30 → ∀ b, b < 30 → a ≠ b → (TX7 a).2.1 ≠ (TX7 b).2.1 := by decide +kernel
theorem tyX7_ok : ∀ k, k < 30 → parseFieldDescriptor (TX7 k).2.2.1 = some (tyX7 k) := by decide +kernel
abbrev cX7_init : ByteArray := prog_9_method_1_code
def yX7_init : MethodName := ⟨RX7, "<init>", "()V"⟩
abbrev cX7_thrown : ByteArray := prog_9_method_2_code
def yX7_thrown : MethodName := ⟨RX7, "thrown", "()I"⟩
abbrev cX7_goes : ByteArray := prog_9_method_3_code
def yX7_goes : MethodName := ⟨RX7, "goes", "(I)Z"⟩
abbrev cX7_isIn : ByteArray := prog_9_method_4_code
def yX7_isIn : MethodName := ⟨RX7, "isIn", "(III)Z"⟩
abbrev cX7_isArticle : ByteArray := prog_9_method_5_code
def yX7_isArticle : MethodName := ⟨RX7, "isArticle", "(I)Z"⟩
abbrev cX7_isContributor : ByteArray := prog_9_method_6_code
def yX7_isContributor : MethodName := ⟨RX7, "isContributor", "(I)Z"⟩
abbrev cX7_isSubject : ByteArray := prog_9_method_7_code
def yX7_isSubject : MethodName := ⟨RX7, "isSubject", "(I)Z"⟩
abbrev cX7_isFact : ByteArray := prog_9_method_8_code
def yX7_isFact : MethodName := ⟨RX7, "isFact", "(I)Z"⟩
abbrev cX7_next : ByteArray := prog_9_method_9_code
def yX7_next : MethodName := ⟨RX7, "next", "(II)I"⟩
abbrev cX7_order : ByteArray := prog_9_method_10_code
def yX7_order : MethodName := ⟨RX7, "order", "(II)I"⟩
abbrev cX7_firstLetter : ByteArray := prog_9_method_11_code
def yX7_firstLetter : MethodName := ⟨RX7, "firstLetter", "(I)I"⟩
abbrev cX7_volumeOf : ByteArray := prog_9_method_12_code
def yX7_volumeOf : MethodName := ⟨RX7, "volumeOf", "(I)I"⟩
abbrev cX7_takes : ByteArray := prog_9_method_13_code
def yX7_takes : MethodName := ⟨RX7, "takes", "(I)V"⟩
abbrev cX7_sign : ByteArray := prog_9_method_14_code
def yX7_sign : MethodName := ⟨RX7, "sign", "(C)I"⟩
abbrev cX7_erase : ByteArray := prog_9_method_15_code
def yX7_erase : MethodName := ⟨RX7, "erase", "()I"⟩
abbrev cX7_rule : ByteArray := prog_9_method_16_code
def yX7_rule : MethodName := ⟨RX7, "rule", "(Z)Z"⟩
abbrev cX7_article : ByteArray := prog_9_method_17_code
def yX7_article : MethodName := ⟨RX7, "article", "(II)I"⟩
abbrev cX7_under : ByteArray := prog_9_method_18_code
def yX7_under : MethodName := ⟨RX7, "under", "(II)I"⟩
abbrev cX7_reference : ByteArray := prog_9_method_19_code
def yX7_reference : MethodName := ⟨RX7, "reference", "(II)I"⟩
abbrev cX7_refer : ByteArray := prog_9_method_20_code
def yX7_refer : MethodName := ⟨RX7, "refer", "(I)I"⟩
abbrev cX7_use : ByteArray := prog_9_method_21_code
def yX7_use : MethodName := ⟨RX7, "use", "(II)Z"⟩
abbrev cX7_change : ByteArray := prog_9_method_22_code
def yX7_change : MethodName := ⟨RX7, "change", "(II)I"⟩
abbrev cX7_forbid : ByteArray := prog_9_method_23_code
def yX7_forbid : MethodName := ⟨RX7, "forbid", "(IZ)Z"⟩
abbrev cX7_volume : ByteArray := prog_9_method_24_code
def yX7_volume : MethodName := ⟨RX7, "volume", "(CI)I"⟩
abbrev cX7_isAhead : ByteArray := prog_9_method_25_code
def yX7_isAhead : MethodName := ⟨RX7, "isAhead", "(II)Z"⟩
abbrev cX7_columns : ByteArray := prog_9_method_26_code
def yX7_columns : MethodName := ⟨RX7, "columns", "(I)I"⟩
abbrev cX7_contributor : ByteArray := prog_9_method_27_code
def yX7_contributor : MethodName := ⟨RX7, "contributor", "(I)I"⟩
abbrev cX7_quarrel : ByteArray := prog_9_method_28_code
def yX7_quarrel : MethodName := ⟨RX7, "quarrel", "(II)Z"⟩
abbrev cX7_refersTo : ByteArray := prog_9_method_29_code
def yX7_refersTo : MethodName := ⟨RX7, "refersTo", "(II)Z"⟩
abbrev cX7_isBarred : ByteArray := prog_9_method_30_code
def yX7_isBarred : MethodName := ⟨RX7, "isBarred", "(II)Z"⟩
abbrev cX7_canBeGiven : ByteArray := prog_9_method_31_code
def yX7_canBeGiven : MethodName := ⟨RX7, "canBeGiven", "(II)Z"⟩
abbrev cX7_toWrite : ByteArray := prog_9_method_32_code
def yX7_toWrite : MethodName := ⟨RX7, "toWrite", "(I)I"⟩
abbrev cX7_first : ByteArray := prog_9_method_33_code
def yX7_first : MethodName := ⟨RX7, "first", "(I)I"⟩
abbrev cX7_begins : ByteArray := prog_9_method_34_code
def yX7_begins : MethodName := ⟨RX7, "begins", "(II)V"⟩
abbrev cX7_give : ByteArray := prog_9_method_35_code
def yX7_give : MethodName := ⟨RX7, "give", "(II)I"⟩
abbrev cX7_die : ByteArray := prog_9_method_36_code
def yX7_die : MethodName := ⟨RX7, "die", "(I)I"⟩
abbrev cX7_pass : ByteArray := prog_9_method_37_code
def yX7_pass : MethodName := ⟨RX7, "pass", "(I)I"⟩
abbrev cX7_isPrinted : ByteArray := prog_9_method_38_code
def yX7_isPrinted : MethodName := ⟨RX7, "isPrinted", "(I)Z"⟩
abbrev cX7_isPromise : ByteArray := prog_9_method_39_code
def yX7_isPromise : MethodName := ⟨RX7, "isPromise", "(I)Z"⟩
abbrev cX7_prints : ByteArray := prog_9_method_40_code
def yX7_prints : MethodName := ⟨RX7, "prints", "(II)I"⟩
abbrev cX7_print : ByteArray := prog_9_method_41_code
def yX7_print : MethodName := ⟨RX7, "print", "(I)I"⟩
abbrev cX7_isOpen : ByteArray := prog_9_method_42_code
def yX7_isOpen : MethodName := ⟨RX7, "isOpen", "(II)Z"⟩
abbrev cX7_supplement : ByteArray := prog_9_method_43_code
def yX7_supplement : MethodName := ⟨RX7, "supplement", "()I"⟩
abbrev cX7_month : ByteArray := prog_9_method_44_code
def yX7_month : MethodName := ⟨RX7, "month", "()I"⟩
abbrev cX7_at : ByteArray := prog_9_method_45_code
def yX7_at : MethodName := ⟨RX7, "at", "(I)I"⟩
abbrev cX7_about : ByteArray := prog_9_method_46_code
def yX7_about : MethodName := ⟨RX7, "about", "(II)I"⟩
abbrev cX7_struck : ByteArray := prog_9_method_47_code
def yX7_struck : MethodName := ⟨RX7, "struck", "()I"⟩
abbrev cX7_errata : ByteArray := prog_9_method_48_code
def yX7_errata : MethodName := ⟨RX7, "errata", "(I)I"⟩
abbrev cX7_opens : ByteArray := prog_9_method_49_code
def yX7_opens : MethodName := ⟨RX7, "opens", "(Z)I"⟩
abbrev cX7_open : ByteArray := prog_9_method_50_code
def yX7_open : MethodName := ⟨RX7, "open", "(Z)I"⟩
abbrev cX7_contradicts : ByteArray := prog_9_method_51_code
def yX7_contradicts : MethodName := ⟨RX7, "contradicts", "(Z)I"⟩
abbrev cX7_contradictions : ByteArray := prog_9_method_52_code
def yX7_contradictions : MethodName := ⟨RX7, "contradictions", "(Z)I"⟩
abbrev cX7_readAnew : ByteArray := prog_9_method_53_code
def yX7_readAnew : MethodName := ⟨RX7, "readAnew", "(Z)I"⟩
abbrev cX7_synopsis : ByteArray := prog_9_method_54_code
def yX7_synopsis : MethodName := ⟨RX7, "synopsis", "(I)I"⟩
def RJx29ce0 : String := "java/lang/Enum"
def TJx29ce0 : u_T := fun k => match k with
  | _ => ("", "", "", false)
def tyJx29ce0 : Nat → FieldType := fun k => match k with
  | _ => .int
abbrev wsJx29ce00 : List Cond := u_ws RJx29ce0 TJx29ce0 0
theorem nmJx29ce0 : ∀ a, a < 0 → ∀ b, b < 0 → a ≠ b → (TJx29ce0 a).2.1 ≠ (TJx29ce0 b).2.1 := by decide +kernel
theorem tyJx29ce0_ok : ∀ k, k < 0 → parseFieldDescriptor (TJx29ce0 k).2.2.1 = some (tyJx29ce0 k) := by decide +kernel
def RJ9 : String := "java/lang/Math"
def TJ9 : u_T := fun k => match k with
  | _ => ("", "", "", false)
def tyJ9 : Nat → FieldType := fun k => match k with
  | _ => .int
abbrev wsJ90 : List Cond := u_ws RJ9 TJ9 0
theorem nmJ9 : ∀ a, a < 0 → ∀ b, b < 0 → a ≠ b → (TJ9 a).2.1 ≠ (TJ9 b).2.1 := by decide +kernel
theorem tyJ9_ok : ∀ k, k < 0 → parseFieldDescriptor (TJ9 k).2.2.1 = some (tyJ9 k) := by decide +kernel
abbrev cJ9_max_7cf53 : ByteArray := prog_15_method_65_code
def yJ9_max_7cf53 : MethodName := ⟨RJ9, "max", "(II)I"⟩
def RJ0 : String := "java/lang/String"
def TJ0 : u_T := fun k => match k with
  | _ => ("", "", "", false)
def tyJ0 : Nat → FieldType := fun k => match k with
  | _ => .int
abbrev wsJ00 : List Cond := u_ws RJ0 TJ0 0
theorem nmJ0 : ∀ a, a < 0 → ∀ b, b < 0 → a ≠ b → (TJ0 a).2.1 ≠ (TJ0 b).2.1 := by decide +kernel
theorem tyJ0_ok : ∀ k, k < 0 → parseFieldDescriptor (TJ0 k).2.2.1 = some (tyJ0 k) := by decide +kernel
def RJ10 : String := "java/lang/System"
def TJ10 : u_T := fun k => match k with
  | _ => ("", "", "", false)
def tyJ10 : Nat → FieldType := fun k => match k with
  | _ => .int
abbrev wsJ100 : List Cond := u_ws RJ10 TJ10 0
theorem nmJ10 : ∀ a, a < 0 → ∀ b, b < 0 → a ≠ b → (TJ10 a).2.1 ≠ (TJ10 b).2.1 := by decide +kernel
theorem tyJ10_ok : ∀ k, k < 0 → parseFieldDescriptor (TJ10 k).2.2.1 = some (tyJ10 k) := by decide +kernel
def RL : String := "CircleOfLeavesLaw"
abbrev cL_sign : ByteArray := method_3_code
def yL_sign : MethodName := ⟨RL, "sign", "(LCircleOfLeaves;C[J)I"⟩
abbrev cL_rule : ByteArray := method_4_code
def yL_rule : MethodName := ⟨RL, "rule", "(LCircleOfLeaves;Z[J)I"⟩
abbrev cL_article : ByteArray := method_5_code
def yL_article : MethodName := ⟨RL, "article", "(LCircleOfLeaves;II[J)I"⟩
abbrev cL_under : ByteArray := method_6_code
def yL_under : MethodName := ⟨RL, "under", "(LCircleOfLeaves;II[J)I"⟩
abbrev cL_refer : ByteArray := method_7_code
def yL_refer : MethodName := ⟨RL, "refer", "(LCircleOfLeaves;I[J)I"⟩
abbrev cL_use : ByteArray := method_8_code
def yL_use : MethodName := ⟨RL, "use", "(LCircleOfLeaves;II[J)I"⟩
abbrev cL_change : ByteArray := method_9_code
def yL_change : MethodName := ⟨RL, "change", "(LCircleOfLeaves;II[J)I"⟩
abbrev cL_forbid : ByteArray := method_10_code
def yL_forbid : MethodName := ⟨RL, "forbid", "(LCircleOfLeaves;IZ[J)I"⟩
abbrev cL_volume : ByteArray := method_11_code
def yL_volume : MethodName := ⟨RL, "volume", "(LCircleOfLeaves;CI[J)I"⟩
abbrev cL_contributor : ByteArray := method_12_code
def yL_contributor : MethodName := ⟨RL, "contributor", "(LCircleOfLeaves;I[J)I"⟩
abbrev cL_quarrel : ByteArray := method_13_code
def yL_quarrel : MethodName := ⟨RL, "quarrel", "(LCircleOfLeaves;II[J)I"⟩
abbrev cL_give : ByteArray := method_14_code
def yL_give : MethodName := ⟨RL, "give", "(LCircleOfLeaves;II[J)I"⟩
abbrev cL_die : ByteArray := method_15_code
def yL_die : MethodName := ⟨RL, "die", "(LCircleOfLeaves;I[J)I"⟩
abbrev cL_pass : ByteArray := method_16_code
def yL_pass : MethodName := ⟨RL, "pass", "(LCircleOfLeaves;I[J)I"⟩
abbrev cL_print : ByteArray := method_17_code
def yL_print : MethodName := ⟨RL, "print", "(LCircleOfLeaves;I[J)I"⟩
abbrev cL_supplement : ByteArray := method_18_code
def yL_supplement : MethodName := ⟨RL, "supplement", "(LCircleOfLeaves;[J)I"⟩
abbrev cL_at : ByteArray := method_19_code
def yL_at : MethodName := ⟨RL, "at", "(LCircleOfLeaves;I[J)I"⟩
abbrev cL_about : ByteArray := method_20_code
def yL_about : MethodName := ⟨RL, "about", "(LCircleOfLeaves;II[J)I"⟩
abbrev cL_errata : ByteArray := method_21_code
def yL_errata : MethodName := ⟨RL, "errata", "(LCircleOfLeaves;I[J)I"⟩
abbrev cL_synopsis : ByteArray := method_22_code
def yL_synopsis : MethodName := ⟨RL, "synopsis", "(LCircleOfLeaves;I[J)I"⟩
abbrev cL_law : ByteArray := code
def yL_law : MethodName := ⟨RL, "law", "([I)Z"⟩
def wsJ9_max_7cf53 : List Cond := .code yJ9_max_7cf53 cJ9_max_7cf53 2 (some .int) :: ([])
theorem inJx29ce0 : ∀ w ∈ wsJx29ce00, w ∈ lw_tbl := by decide +kernel
theorem inJ9 : ∀ w ∈ wsJ90, w ∈ lw_tbl := by decide +kernel
theorem inJ0 : ∀ w ∈ wsJ00, w ∈ lw_tbl := by decide +kernel
theorem inJ10 : ∀ w ∈ wsJ100, w ∈ lw_tbl := by decide +kernel
theorem dJ9_max_7cf53_0 : decode cJ9_max_7cf53 0 = .ok (.iload_n 0, 1) := by decide +kernel
theorem dJ9_max_7cf53_1 : decode cJ9_max_7cf53 1 = .ok (.iload_n 1, 1) := by decide +kernel
theorem dJ9_max_7cf53_2 : decode cJ9_max_7cf53 2 = .ok (.if_icmp .lt 7, 3) := by decide +kernel
theorem dJ9_max_7cf53_5 : decode cJ9_max_7cf53 5 = .ok (.iload_n 0, 1) := by decide +kernel
theorem dJ9_max_7cf53_6 : decode cJ9_max_7cf53 6 = .ok (.goto 4, 3) := by decide +kernel
theorem dJ9_max_7cf53_9 : decode cJ9_max_7cf53 9 = .ok (.iload_n 1, 1) := by decide +kernel
theorem dJ9_max_7cf53_10 : decode cJ9_max_7cf53 10 = .ok (.ireturn, 1) := by decide +kernel
abbrev vwCl : List vw_C := [(RX0, TX0, 12), (RX1, TX1, 6), (RX3, TX3, 4), (RX4, TX4, 2), (RX5, TX5, 2), (RX6, TX6, 12), (RX7, TX7, 30)]
end
section
/-! the store: one function by family, owner's number, place; the world: 606 cells behind the law's entry -/
abbrev gSt : Type := Nat → Nat → Nat → Int32
abbrev gE : Type := va_G × (Nat → ClassId) × (Nat → Nat) × (Nat → Nat) × Nat
def eD (E : gE) : va_G := E.1
def eT (E : gE) : Nat → ClassId := E.2.1
def eF (E : gE) : Nat → Nat := E.2.2.1
def eS (E : gE) : Nat → Nat := E.2.2.2.1
def eB (E : gE) : Nat := E.2.2.2.2
def gU (σ : gSt) (F i k : Nat) (x : Int32) : gSt := fun F' i' k' => if F' = F ∧ i' = i ∧ k' = k then x else σ F' i' k'
def gR (σ : gSt) (F i : Nat) (f : Nat → Int32) : gSt := fun F' i' k' => if F' = F ∧ i' = i then f k' else σ F' i' k'
theorem gU_R (σ : gSt) (F i k : Nat) (x : Int32) : gU σ F i k x = gR σ F i (fun k' => if k' = k then x else σ F i k') := by
  funext F' i' k'
  by_cases h : F' = F ∧ i' = i
  · obtain ⟨rfl, rfl⟩ := h
    simp [gU, gR]
  · have h2 : ¬ (F' = F ∧ i' = i ∧ k' = k) := fun q => h ⟨q.1, q.2.1⟩
    simp only [gU, gR, if_neg h, if_neg h2]
/-- which families are arrays of ints, booleans, chars; their lengths; their types: 0 char, 1 int, 2 boolean -/
def isArr (F : Nat) : Bool := Nat.beq F 2 || Nat.beq F 3 || Nat.beq F 30 || Nat.beq F 31 || Nat.beq F 60 || Nat.beq F 61 || Nat.beq F 154 || Nat.beq F 155 || (Nat.ble 181 F && Nat.ble F 182) || (Nat.ble 184 F && Nat.ble F 196) || (Nat.ble 198 F && Nat.ble F 199) || (Nat.ble 202 F && Nat.ble F 205)
def tA (F : Nat) : Nat := cond (Nat.beq F 60 || Nat.beq F 61) 0 (cond (Nat.beq F 2 || Nat.beq F 31 || Nat.beq F 190 || Nat.beq F 193 || Nat.beq F 203 || Nat.beq F 204) 2 1)
def lA (F : Nat) : Nat := cond (Nat.beq F 60 || Nat.beq F 61 || Nat.beq F 2 || Nat.beq F 3 || Nat.beq F 155 || Nat.beq F 196) 8 (cond (Nat.beq F 30) 24 (cond (Nat.beq F 31 || Nat.beq F 202 || Nat.beq F 203 || Nat.beq F 205) 6 (cond (Nat.beq F 154 || Nat.beq F 195) 10 (cond (Nat.beq F 181) 1000 (cond (Nat.beq F 182) 125 (cond (Nat.beq F 192) 96 (cond (Nat.beq F 193 || Nat.beq F 194) 192 (cond (Nat.beq F 198 || Nat.beq F 199) 4 (cond (Nat.beq F 204) 36 24)))))))))
/-- the cells' numbers -/
def oArt (i : Nat) : Nat := 9 + 23 * i
def oRef (r : Nat) : Nat := 16 + 23 * (r / 4) + 4 * (r % 4)
def oHw (h : Nat) : Nat := if h = 120 then 1 else if h < 24 then 10 + 23 * h else oRef (h - 24) + 1
def oVol (v : Nat) : Nat := 561 + v
def oCon (c : Nat) : Nat := 565 + 3 * c
def oRa (i : Nat) : Nat := 13 + 23 * i
def oA (F i : Nat) : Nat := cond (Nat.beq F 60) (oHw i + 1) (cond (Nat.beq F 61) (oHw i + 2) (cond (Nat.beq F 2) (oArt i + 5) (cond (Nat.beq F 3) (oArt i + 6) (cond (Nat.beq F 30) (oCon i + 1) (cond (Nat.beq F 31) (oCon i + 2) (cond (Nat.beq F 154) 7 (cond (Nat.beq F 155) 8 (cond (Nat.ble F 182) (403 + F) (cond (Nat.ble F 196) (402 + F) (cond (Nat.ble F 199) (401 + F) (399 + F)))))))))))
/-- a cell's kind, family, owner's number -/
def dec (o : Nat) : Nat × Nat × Nat :=
  if o = 0 then (5, 0, 0) else if o = 1 then (2, 0, 120) else if o = 2 then (10, 60, 120) else if o = 3 then (10, 61, 120) else if o = 4 then (17, 0, 0) else if o = 5 then (18, 0, 0) else if o = 6 then (19, 0, 0) else if o = 7 then (10, 154, 0) else if o = 8 then (10, 155, 0) else
  if o < 561 then (if (o - 9) % 23 = 0 then (0, 0, (o - 9) / 23) else if (o - 9) % 23 = 1 then (2, 0, (o - 9) / 23) else if (o - 9) % 23 = 2 then (10, 60, (o - 9) / 23) else if (o - 9) % 23 = 3 then (10, 61, (o - 9) / 23) else if (o - 9) % 23 = 4 then (12, 0, (o - 9) / 23) else if (o - 9) % 23 = 5 then (10, 2, (o - 9) / 23) else if (o - 9) % 23 = 6 then (10, 3, (o - 9) / 23) else
    if ((o - 9) % 23 - 7) % 4 = 0 then (3, 0, 4 * ((o - 9) / 23) + ((o - 9) % 23 - 7) / 4) else if ((o - 9) % 23 - 7) % 4 = 1 then (2, 0, 24 + (4 * ((o - 9) / 23) + ((o - 9) % 23 - 7) / 4)) else if ((o - 9) % 23 - 7) % 4 = 2 then (10, 60, 24 + (4 * ((o - 9) / 23) + ((o - 9) % 23 - 7) / 4)) else (10, 61, 24 + (4 * ((o - 9) / 23) + ((o - 9) % 23 - 7) / 4))) else
  if o < 565 then (4, 0, o - 561) else if o < 583 then (if (o - 565) % 3 = 0 then (1, 0, (o - 565) / 3) else if (o - 565) % 3 = 1 then (10, 30, (o - 565) / 3) else (10, 31, (o - 565) / 3)) else
  if o = 583 then (6, 0, 0) else if o < 586 then (10, o - 403, 0) else if o < 599 then (10, o - 402, 0) else if o < 601 then (10, o - 401, 0) else if o < 605 then (10, o - 399, 0) else (23, 0, 0)
def oEnc (kd F i : Nat) : Nat := match kd with
  | 0 => oArt i
  | 1 => oCon i
  | 2 => oHw i
  | 3 => oRef i
  | 4 => oVol i
  | 5 => 0
  | 6 => 583
  | 12 => oRa i
  | 17 => 4
  | 18 => 5
  | 19 => 6
  | 23 => 605
  | _ => oA F i
theorem dec_ok : ∀ o, o < 606 → (oEnc (dec o).1 (dec o).2.1 (dec o).2.2 = o ∧ ((dec o).1 < 7 ∨ ((dec o).1 = 10 ∧ isArr (dec o).2.1 = true) ∨ (dec o).1 = 12 ∨ (dec o).1 = 17 ∨ (dec o).1 = 18 ∨ (dec o).1 = 19 ∨ (dec o).1 = 23)) := by decide +kernel
theorem dec_art : ∀ i, i < 24 → (dec (oArt i) = (0, 0, i) ∧ oArt i < 606) := by decide +kernel
theorem dec_con : ∀ i, i < 6 → (dec (oCon i) = (1, 0, i) ∧ oCon i < 606) := by decide +kernel
theorem dec_hw : ∀ i, i < 121 → (dec (oHw i) = (2, 0, i) ∧ oHw i < 606) := by decide +kernel
theorem dec_ref : ∀ i, i < 96 → (dec (oRef i) = (3, 0, i) ∧ oRef i < 606) := by decide +kernel
theorem dec_vol : ∀ i, i < 4 → (dec (oVol i) = (4, 0, i) ∧ oVol i < 606) := by decide +kernel
theorem dec_ra : ∀ i, i < 24 → (dec (oRa i) = (12, 0, i) ∧ oRa i < 606) := by decide +kernel
/-- how many owners a family has -/
def nA (F : Nat) : Nat := cond (Nat.beq F 60 || Nat.beq F 61) 121 (cond (Nat.beq F 2 || Nat.beq F 3) 24 (cond (Nat.beq F 30 || Nat.beq F 31) 6 1))
theorem dec_arr : ∀ F, F < 206 → ∀ i, i < nA F → isArr F = true → (dec (oA F i) = (10, F, i) ∧ oA F i < 606) := by decide +kernel
/-- the cell that holds a place of the store -/
def oOf (F i : Nat) : Nat := cond (isArr F) (oA F i) (cond (Nat.ble F 11) (oArt i) (cond (Nat.ble F 35) (oCon i) (cond (Nat.ble F 63) (oHw i) (cond (Nat.ble F 91) (oRef i) (cond (Nat.ble F 121) (oVol i) (cond (Nat.ble F 161) 0 583))))))
def cellK (E : gE) (w : Nat → Int64) (σ : gSt) (kd F i : Nat) : va_E := match kd with
  | 0 => .inr (0, [.ref (eB E + oHw i), .ref (eB E + oRa i), .ref (eB E + oA 2 i), .ref (eB E + oA 3 i), .int (σ 4 i 0), .int (σ 5 i 0), .int (σ 6 i 0), .int (σ 7 i 0), .int (σ 8 i 0), .int (σ 9 i 0), .int (σ 10 i 0), .int (σ 11 i 0)])
  | 1 => .inr (1, [.ref (eB E + oA 30 i), .ref (eB E + oA 31 i), .int (σ 32 i 0), .int (σ 33 i 0), .int (σ 34 i 0), .int (σ 35 i 0)])
  | 2 => .inr (2, [.ref (eB E + oA 60 i), .ref (eB E + oA 61 i), .int (σ 62 i 0), .int (σ 63 i 0)])
  | 3 => .inr (3, [.ref (eB E + oHw (24 + i)), .ref (eF E (σ 91 i 0).toNatClampNeg)])
  | 4 => .inr (4, [.int (σ 120 i 0), .int (σ 121 i 0)])
  | 5 => .inr (5, [.ref (eB E + oHw 120), .ref (eB E + 4), .ref (eB E + 5), .ref (eB E + 6), .ref (eB E + oA 154 0), .ref (eB E + oA 155 0), .int (σ 156 0 0), .int (σ 157 0 0), .int (σ 158 0 0), .int (σ 159 0 0), .int (σ 160 0 0), .int (σ 161 0 0)])
  | 6 => .inr (6, [.int (σ 180 0 0), .ref (eB E + oA 181 0), .ref (eB E + oA 182 0), .int (σ 183 0 0), .ref (eB E + oA 184 0), .ref (eB E + oA 185 0), .ref (eB E + oA 186 0), .ref (eB E + oA 187 0), .ref (eB E + oA 188 0), .ref (eB E + oA 189 0), .ref (eB E + oA 190 0), .ref (eB E + oA 191 0), .ref (eB E + oA 192 0), .ref (eB E + oA 193 0), .ref (eB E + oA 194 0), .ref (eB E + oA 195 0), .ref (eB E + oA 196 0), .int (σ 197 0 0), .ref (eB E + oA 198 0), .ref (eB E + oA 199 0), .int (σ 200 0 0), .int (σ 201 0 0), .ref (eB E + oA 202 0), .ref (eB E + oA 203 0), .ref (eB E + oA 204 0), .ref (eB E + oA 205 0), .int (σ 206 0 0), .int (σ 207 0 0), .int (σ 208 0 0), .int (σ 209 0 0)])
  | 12 => .inl (eT E 5, 4, .inr (.inr (.inr (.inr (fun k => some (eB E + oRef (4 * i + k)))))))
  | 17 => .inl (eT E 3, 24, .inr (.inr (.inr (.inr (fun k => some (eB E + oArt k))))))
  | 18 => .inl (eT E 6, 4, .inr (.inr (.inr (.inr (fun k => some (eB E + oVol k))))))
  | 19 => .inl (eT E 4, 6, .inr (.inr (.inr (.inr (fun k => some (eB E + oCon k))))))
  | 23 => .inl (eT E 7, 1, .inr (.inl w))
  | _ => .inl (eT E (tA F), lA F, .inl (fun k => σ F i k))
def gC (E : gE) (w : Nat → Int64) (σ : gSt) (o : Nat) : va_E := cellK E w σ (dec o).1 (dec o).2.1 (dec o).2.2
def gW (E : gE) (w : Nat → Int64) (σ : gSt) : va_W := (List.range 606).map (fun o => (eB E + o, gC E w σ o))
theorem gW_at {E : gE} {w : Nat → Int64} {σ : gSt} {o : Nat} (h : o < 606) : (gW E w σ)[o]? = some (eB E + o, gC E w σ o) := by
  simp [gW, h]
theorem gW_inv {E : gE} {w : Nat → Int64} {σ : gSt} {o : Nat} {q : Nat × va_E} (h : (gW E w σ)[o]? = some q) : o < 606 ∧ q = (eB E + o, gC E w σ o) := by
  have h1 : o < 606 := by
    have := (List.getElem?_eq_some_iff.mp h).1
    simpa [gW] using this
  rw [gW_at h1] at h
  exact ⟨h1, (Option.some.inj h).symm⟩
theorem gD {E : gE} {w : Nat → Int64} {σ : gSt} : va_D (fun q => eB E ≤ q) (gW E w σ) := by
  refine ⟨fun i j p q hi hj hpq => ?_, fun k q hk => ?_⟩
  · obtain ⟨-, rfl⟩ := gW_inv hi
    obtain ⟨-, rfl⟩ := gW_inv hj
    have : eB E + i = eB E + j := hpq
    omega
  · obtain ⟨-, rfl⟩ := gW_inv hk
    exact Nat.le_add_right _ _
theorem gW_set {E : gE} {w : Nat → Int64} {σ σ' : gSt} {o : Nat} {v : va_E} (h1 : gC E w σ' o = v) (h2 : ∀ o', o' < 606 → o' ≠ o → gC E w σ' o' = gC E w σ o') : (gW E w σ).set o (eB E + o, v) = gW E w σ' := by
  apply List.ext_getElem?
  intro k
  rw [List.getElem?_set]
  by_cases hk : k < 606
  · rw [gW_at hk, gW_at hk]
    by_cases e : o = k
    · subst e
      simp [gW, hk, h1]
    · rw [if_neg e, h2 k hk (fun z => e z.symm)]
  · have e1 : (gW E w σ')[k]? = none := by simp [gW]; omega
    have e2 : (gW E w σ)[k]? = none := by simp [gW]; omega
    have e3 : ¬ k < (gW E w σ).length := by simpa [gW] using hk
    rw [e1, e2]
    by_cases e : o = k
    · subst e
      simp [e3]
    · simp [e]
theorem gR_ne {σ : gSt} {F i F' i' : Nat} {f : Nat → Int32} (h : ¬ (F' = F ∧ i' = i)) (k' : Nat) : gR σ F i f F' i' k' = σ F' i' k' := by
  simp only [gR, if_neg h]
theorem gC_ne {E : gE} {w : Nat → Int64} {σ : gSt} {F i : Nat} {f : Nat → Int32} {o' : Nat} (ho : o' < 606) (hn : o' ≠ oOf F i) : gC E w (gR σ F i f) o' = gC E w σ o' := by
  obtain ⟨h1, h2⟩ := dec_ok o' ho
  unfold gC
  generalize dec o' = d at h1 h2
  obtain ⟨kd, F', i'⟩ := d
  dsimp only at h1 h2 ⊢
  have key : ∀ G j, oOf G j = o' → ¬ (G = F ∧ j = i) := fun G j hG hq => by
    obtain ⟨rfl, rfl⟩ := hq
    exact hn hG.symm
  clear hn ho
  rcases h2 with h2 | ⟨rfl, h2⟩ | rfl | rfl | rfl | rfl | rfl
  · have h3 : kd = 0 ∨ kd = 1 ∨ kd = 2 ∨ kd = 3 ∨ kd = 4 ∨ kd = 5 ∨ kd = 6 := by omega
    rcases h3 with rfl | rfl | rfl | rfl | rfl | rfl | rfl
    · have e : oArt i' = o' := h1
      simp only [cellK, gR_ne (key 4 i' e), gR_ne (key 5 i' e), gR_ne (key 6 i' e), gR_ne (key 7 i' e), gR_ne (key 8 i' e), gR_ne (key 9 i' e), gR_ne (key 10 i' e), gR_ne (key 11 i' e)]
    · have e : oCon i' = o' := h1
      simp only [cellK, gR_ne (key 32 i' e), gR_ne (key 33 i' e), gR_ne (key 34 i' e), gR_ne (key 35 i' e)]
    · have e : oHw i' = o' := h1
      simp only [cellK, gR_ne (key 62 i' e), gR_ne (key 63 i' e)]
    · have e : oRef i' = o' := h1
      simp only [cellK, gR_ne (key 91 i' e)]
    · have e : oVol i' = o' := h1
      simp only [cellK, gR_ne (key 120 i' e), gR_ne (key 121 i' e)]
    · have e : 0 = o' := h1
      simp only [cellK, gR_ne (key 156 0 e), gR_ne (key 157 0 e), gR_ne (key 158 0 e), gR_ne (key 159 0 e), gR_ne (key 160 0 e), gR_ne (key 161 0 e)]
    · have e : 583 = o' := h1
      simp only [cellK, gR_ne (key 180 0 e), gR_ne (key 183 0 e), gR_ne (key 197 0 e), gR_ne (key 200 0 e), gR_ne (key 201 0 e), gR_ne (key 206 0 e), gR_ne (key 207 0 e), gR_ne (key 208 0 e), gR_ne (key 209 0 e)]
  · have e : oA F' i' = o' := h1
    have h3 := key F' i' (by rw [← e]; simp only [oOf, h2, cond_true])
    simp only [cellK, gR_ne h3]
  all_goals simp only [cellK]
end
section
/-! what every method of the claim needs of a launch: words of the tables, nest words, texts, statics -/
def WALL : List Cond := lw_tbl.filter goodWord
theorem wall {w : Cond} (h : w ∈ lw_tbl) (g : goodWord w = true) : w ∈ WALL := List.mem_filter.mpr ⟨h, g⟩
def NWL : List Cond := [.fieldLinkNest "CircleOfLeaves" 58 "CircleOfLeaves$Headword" "signCount" "I" "CircleOfLeaves", .fieldLinkNest "CircleOfLeaves" 128 "CircleOfLeaves$Reference" "headword" "LCircleOfLeaves$Headword;" "CircleOfLeaves", .fieldLinkNest "CircleOfLeaves$Article" 66 "CircleOfLeaves$Reference" "fate" "LCircleOfLeaves$Fate;" "CircleOfLeaves", .fieldLinkNest "CircleOfLeaves" 354 "CircleOfLeaves$Reference" "fate" "LCircleOfLeaves$Fate;" "CircleOfLeaves", .fieldLinkNest "CircleOfLeaves" 104 "CircleOfLeaves$Article" "headword" "LCircleOfLeaves$Headword;" "CircleOfLeaves", .fieldLinkNest "CircleOfLeaves" 124 "CircleOfLeaves$Article" "references" "[LCircleOfLeaves$Reference;" "CircleOfLeaves", .fieldLinkNest "CircleOfLeaves" 139 "CircleOfLeaves$Article" "usesFact" "[Z" "CircleOfLeaves", .fieldLinkNest "CircleOfLeaves" 377 "CircleOfLeaves$Article" "toldValues" "[I" "CircleOfLeaves", .fieldLinkNest "CircleOfLeaves" 119 "CircleOfLeaves$Article" "referenceCount" "I" "CircleOfLeaves", .fieldLinkNest "CircleOfLeaves" 98 "CircleOfLeaves$Article" "subject" "I" "CircleOfLeaves", .fieldLinkNest "CircleOfLeaves" 101 "CircleOfLeaves$Article" "worth" "I" "CircleOfLeaves", .fieldLinkNest "CircleOfLeaves" 195 "CircleOfLeaves$Article" "contributor" "I" "CircleOfLeaves", .fieldLinkNest "CircleOfLeaves" 213 "CircleOfLeaves$Article" "endMonth" "I" "CircleOfLeaves", .fieldLinkNest "CircleOfLeaves" 341 "CircleOfLeaves$Article" "hasText" "Z" "CircleOfLeaves", .fieldLinkNest "CircleOfLeaves" 145 "CircleOfLeaves$Article" "isForbidden" "Z" "CircleOfLeaves", .fieldLinkNest "CircleOfLeaves" 116 "CircleOfLeaves$Article" "isPrinted" "Z" "CircleOfLeaves", .fieldLinkNest "CircleOfLeaves" 153 "CircleOfLeaves$Volume" "lastLetter" "C" "CircleOfLeaves", .fieldLinkNest "CircleOfLeaves" 161 "CircleOfLeaves$Volume" "budget" "I" "CircleOfLeaves", .fieldLinkNest "CircleOfLeaves" 210 "CircleOfLeaves$Contributor" "toWrite" "[I" "CircleOfLeaves", .fieldLinkNest "CircleOfLeaves" 179 "CircleOfLeaves$Contributor" "hasQuarrelledWith" "[Z" "CircleOfLeaves", .fieldLinkNest "CircleOfLeaves" 201 "CircleOfLeaves$Contributor" "toWriteCount" "I" "CircleOfLeaves", .fieldLinkNest "CircleOfLeaves" 171 "CircleOfLeaves$Contributor" "pace" "I" "CircleOfLeaves", .fieldLinkNest "CircleOfLeaves" 276 "CircleOfLeaves$Contributor" "errataOwned" "I" "CircleOfLeaves", .fieldLinkNest "CircleOfLeaves" 186 "CircleOfLeaves$Contributor" "isDead" "Z" "CircleOfLeaves", .methodLinkNest "CircleOfLeaves" 9 ⟨"CircleOfLeaves$Headword", "<init>", "()V"⟩ "CircleOfLeaves", .methodLinkNest "CircleOfLeaves" 41 ⟨"CircleOfLeaves$Article", "<init>", "()V"⟩ "CircleOfLeaves", .methodLinkNest "CircleOfLeaves$Article" 11 ⟨"CircleOfLeaves$Headword", "<init>", "()V"⟩ "CircleOfLeaves", .methodLinkNest "CircleOfLeaves$Article" 39 ⟨"CircleOfLeaves$Reference", "<init>", "()V"⟩ "CircleOfLeaves", .methodLinkNest "CircleOfLeaves$Reference" 9 ⟨"CircleOfLeaves$Headword", "<init>", "()V"⟩ "CircleOfLeaves", .methodLinkNest "CircleOfLeaves" 42 ⟨"CircleOfLeaves$Volume", "<init>", "()V"⟩ "CircleOfLeaves", .methodLinkNest "CircleOfLeaves" 43 ⟨"CircleOfLeaves$Contributor", "<init>", "()V"⟩ "CircleOfLeaves", .methodLinkNest "CircleOfLeaves" 71 ⟨"CircleOfLeaves$Headword", "clear", "()V"⟩ "CircleOfLeaves", .methodLinkNest "CircleOfLeaves" 272 ⟨"CircleOfLeaves$Article", "countReferences", "(LCircleOfLeaves$Fate;)I"⟩ "CircleOfLeaves", .methodLinkNest "CircleOfLeaves" 279 ⟨"CircleOfLeaves$Article", "isReadIn", "(Z)Z"⟩ "CircleOfLeaves", .methodLinkNest "CircleOfLeaves" 319 ⟨"CircleOfLeaves$Headword", "firstLetter", "()C"⟩ "CircleOfLeaves", .methodLinkNest "CircleOfLeaves" 312 ⟨"CircleOfLeaves$Headword", "compareBy", "(ZLCircleOfLeaves$Headword;)I"⟩ "CircleOfLeaves", .methodLinkNest "CircleOfLeaves" 67 ⟨"CircleOfLeaves$Headword", "add", "(C)V"⟩ "CircleOfLeaves", .methodLinkNest "CircleOfLeaves$Headword" 22 ⟨"CircleOfLeaves", "isGap", "(C)Z"⟩ "CircleOfLeaves", .methodLinkNest "CircleOfLeaves$Headword" 26 ⟨"CircleOfLeaves", "isLetter", "(C)Z"⟩ "CircleOfLeaves", .methodLinkNest "CircleOfLeaves" 92 ⟨"CircleOfLeaves$Headword", "hasLetter", "()Z"⟩ "CircleOfLeaves", .methodLinkNest "CircleOfLeaves" 107 ⟨"CircleOfLeaves$Headword", "take", "(LCircleOfLeaves$Headword;)V"⟩ "CircleOfLeaves", .methodLinkNest "CircleOfLeaves" 134 ⟨"CircleOfLeaves$Article", "isBlind", "()Z"⟩ "CircleOfLeaves", .methodLinkNest "CircleOfLeaves" 198 ⟨"CircleOfLeaves$Contributor", "addToWrite", "(I)V"⟩ "CircleOfLeaves", .methodLinkNest "CircleOfLeaves" 338 ⟨"CircleOfLeaves$Contributor", "monthsFor", "(I)I"⟩ "CircleOfLeaves", .methodLinkNest "CircleOfLeaves" 344 ⟨"CircleOfLeaves$Contributor", "removeFirst", "()V"⟩ "CircleOfLeaves", .methodLinkNest "CircleOfLeaves" 347 ⟨"CircleOfLeaves$Article", "isReady", "()Z"⟩ "CircleOfLeaves", .methodLinkNest "CircleOfLeaves" 350 ⟨"CircleOfLeaves$Article", "putToPress", "([I)V"⟩ "CircleOfLeaves", .methodLinkNest "CircleOfLeaves" 256 ⟨"CircleOfLeaves$Article", "state", "()I"⟩ "CircleOfLeaves"]
def gTxt : List (Nat × String) := [(53, "no letter, blank or hyphen"), (64, "the draft is full"), (77, "a volume is printed"), (87, "worth out of range"), (96, "no more articles, or no letter in the draft"), (111, "not below the subject"), (122, "printed, full, or no letter in the draft"), (137, "printed, or blind"), (143, "printed"), (148, "no letter, or columns out of range"), (157, "not behind the volume ahead"), (159, "no more volumes"), (164, "pace out of range"), (169, "no more contributors"), (177, "nobody quarrels alone"), (193, "it cannot be given to that one"), (208, "dead"), (216, "months out of range"), (228, "printed, or one ahead is not"), (237, "no volume is printed"), (248, "no such place"), (254, "no such question"), (302, "no such article"), (304, "no such volume"), (306, "no such contributor"), (308, "no such subject"), (310, "no such fact")]
def gUp : List String := ["java/lang/RuntimeException", "java/lang/Exception"]
def gIAE : String := "java/lang/IllegalArgumentException"
def gISE : String := "java/lang/IllegalStateException"
def gIOE : String := "java/lang/IndexOutOfBoundsException"
def XWL : List Cond := (vx_atS RX6 55 gIAE gUp ++ vx_atS RX6 66 gISE gUp ++ vx_atS RX6 250 gIOE gUp).filter (fun w => !goodWord w)
def nestW : Cond → Bool
  | .fieldLinkNest _ _ _ _ _ _ => true
  | .methodLinkNest _ _ _ _ => true
  | _ => false
theorem NWL_ok : ∀ w ∈ NWL, nestW w = true := by decide +kernel
theorem NWL_tb : ∀ w ∈ NWL, w ∈ lw_tbl := by decide +kernel
theorem XWL_ok : ∀ w ∈ XWL, (w.onTables && w.keepsFace) = true := by decide +kernel
theorem nestW_ot {w : Cond} (h : nestW w = true) : w.onTables = true := by
  cases w <;> first | rfl | (exact absurd h (by decide)) | (simp [nestW] at h)
theorem nestW_warm {w : Cond} (h : nestW w = true) {s U : State} (hW : s.WarmedH U.vm) (hZ : va_Nw w s) : va_Nw w U := by
  cases w <;> first | exact va_Nw.warmF hW hZ | exact va_Nw.warmM hW hZ | (simp [nestW] at h)
theorem faceW_warm {w : Cond} (h : (w.onTables && w.keepsFace) = true) {s U : State} (hW : s.WarmedH U.vm) (hZ : va_Nw w s) : va_Nw w U := by
  simp only [Bool.and_eq_true] at h
  have h1 : w.before #[] (s.setVm U.vm) = true := Cond.before_shiftedFace (State.Shifted.of_warmed hW) _ h.2 hZ
  exact va_tabs h.1 (rfl : (s.setVm U.vm).vm = U.vm) h1
def gTys (E : gE) : List (ClassId × FieldType) := [(eT E 0, .char), (eT E 1, .int), (eT E 2, .boolean), (eT E 3, .object RX0), (eT E 4, .object RX1), (eT E 5, .object RX4), (eT E 6, .object RX5), (eT E 7, .long)]
def gFates : List String := ["UNSEEN", "STANDING", "PROMISED", "STRUCK", "TOLD"]
def gFd : String := "LCircleOfLeaves$Fate;"
/-- the knowledge: classes, nest words, texts, statics (all below the claim's own cells) -/
def gK (E : gE) (U : State) : Prop := va_K (eD E) vwCl (gTys E) U ∧ (∀ w ∈ NWL, va_Nw w U) ∧ (∀ w ∈ XWL, va_Nw w U) ∧ (∀ q ∈ gTxt, vk_R RX6 q.1 q.2 (eS E q.1) U) ∧
  vx_Zq Bundle.tN "UNASSIGNED_STACK" Bundle.steD (fun q => eB E ≤ q) U U.heap ∧ vx_Zq Bundle.tN "SUPPRESSED_SENTINEL" Bundle.listD (fun q => eB E ≤ q) U U.heap ∧
  (∀ (k : Nat) (n : String), gFates[k]? = some n → va_Z RX2 n gFd (.ref (eF E k)) (fun q => eB E ≤ q) U U.heap) ∧ (∀ i j, i < 5 → j < 5 → eF E i = eF E j → i = j) ∧ eB E ≤ U.heap.size
theorem gK.warm {E : gE} {s U : State} {H : Heap} {locs : List Loc} (h : gK E s) (hW : s.WarmedH U.vm) (hU : U.heap = H) (hS : va_S (fun q => eB E ≤ q) s.heap H locs) : gK E U := by
  obtain ⟨h1, h2, h3, h4, h5, h6, h7, h8, h9⟩ := h
  have hk : ∀ a : Nat, a < s.heap.size → ¬ eB E ≤ a → U.heap[a]? = s.heap[a]? := fun a ha hn => by rw [hU]; exact hS.2.1 a ha hn
  refine ⟨va_K.moved hW.alike h1, fun w hw => nestW_warm (NWL_ok w hw) hW (h2 w hw), fun w hw => faceW_warm (XWL_ok w hw) hW (h3 w hw), fun q hq => vk_R.warm hW (h4 q hq), ?_, ?_, fun k n hn => ?_, h8, ?_⟩
  · exact (vx_Zq.moved hW.alike h5).kept hk
  · exact (vx_Zq.moved hW.alike h6).kept hk
  · exact (va_Z.moved hW.alike (h7 k n hn)).kept hk
  · rw [hU]; exact Nat.le_trans h9 hS.1
theorem gK.same {E : gE} {s U : State} (h : gK E s) (hv : U.vm = s.vm) (hU : U.heap = s.heap) : gK E U := by
  have hA : s.vm.Alike U.vm := by rw [hv]; exact Vm.Alike.refl _
  obtain ⟨h1, h2, h3, h4, h5, h6, h7, h8, h9⟩ := h
  have hk : ∀ a : Nat, a < s.heap.size → ¬ eB E ≤ a → U.heap[a]? = s.heap[a]? := fun a ha hn => by rw [hU]
  refine ⟨va_K.moved hA h1, fun w hw => va_Nw.same (nestW_ot (NWL_ok w hw)) hv.symm (h2 w hw), fun w hw => va_Nw.same (by have := XWL_ok w hw; simp only [Bool.and_eq_true] at this; exact this.1) hv.symm (h3 w hw), fun q hq => vk_R.same hv (h4 q hq), ?_, ?_, fun k n hn => ?_, h8, ?_⟩
  · exact (vx_Zq.moved hA h5).kept hk
  · exact (vx_Zq.moved hA h6).kept hk
  · exact (va_Z.moved hA (h7 k n hn)).kept hk
  · rw [hU]; exact h9
theorem inW0 : ∀ w ∈ u_ws RX0 TX0 12, w ∈ WALL := by decide +kernel
theorem inW1 : ∀ w ∈ u_ws RX1 TX1 6, w ∈ WALL := by decide +kernel
theorem inW3 : ∀ w ∈ u_ws RX3 TX3 4, w ∈ WALL := by decide +kernel
theorem inW4 : ∀ w ∈ u_ws RX4 TX4 2, w ∈ WALL := by decide +kernel
theorem inW5 : ∀ w ∈ u_ws RX5 TX5 2, w ∈ WALL := by decide +kernel
theorem inW6 : ∀ w ∈ u_ws RX6 TX6 12, w ∈ WALL := by decide +kernel
theorem inW7 : ∀ w ∈ u_ws RX7 TX7 30, w ∈ WALL := by decide +kernel
end
section
/-! the judgement over the store: G .. σ pc locals stack; a row an instruction -/
def lkp : List (Nat × Value) → Nat → Option Value
  | [], _ => none
  | q :: r, i => cond (Nat.beq q.1 i) (some q.2) (lkp r i)
theorem lkp_mem {v : Value} {i : Nat} : ∀ {l : List (Nat × Value)}, lkp l i = some v → (i, v) ∈ l
  | [], h => by cases h
  | q :: r, h => by
    unfold lkp at h
    cases hb : Nat.beq q.1 i with
    | true =>
      rw [hb] at h
      have h1 : q.2 = v := Option.some.inj h
      have h2 : q.1 = i := Nat.eq_of_beq_eq_true hb
      have h3 : q = (i, v) := Prod.ext h2 h1
      rw [← h3]
      exact List.mem_cons_self
    | false =>
      rw [hb] at h
      exact List.mem_cons_of_mem _ (lkp_mem h)
theorem lkp_at {ls : Array Slot} {nL : Nat} {l : List (Nat × Value)} {i : Nat} {v : Value} (h : lv_has ls nL l) (hk : lkp l i = some v) : ls[i]? = some (.val v) := h.2.2 (i, v) (lkp_mem hk)
/-- guards and calls of the written functions -/
def gd {α : Type} (b : Bool) (k : Option α) : Option α := cond b k none
theorem gd_ok {α : Type} {b : Bool} {k : Option α} {r : α} (h : gd b k = some r) : b = true ∧ k = some r := by
  cases b with
  | true => exact ⟨rfl, h⟩
  | false => cases h
def bd {α : Type} (m : Option (Int32 × gSt)) (k : Int32 → gSt → Option α) : Option α := match m with
  | none => none
  | some r => k r.1 r.2
theorem bd_ok {α : Type} {m : Option (Int32 × gSt)} {k : Int32 → gSt → Option α} {r : α} (h : bd m k = some r) : ∃ (v : Int32) (σ : gSt), m = some (v, σ) ∧ k v σ = some r := by
  cases m with
  | none => cases h
  | some q => exact ⟨q.1, q.2, rfl, h⟩
def inb (x : Int32) (n : Nat) : Bool := decide (0 ≤ x) && Nat.blt x.toNatClampNeg n
theorem inb_in {x : Int32} {n : Nat} (h : inb x n = true) : vp_in x n := by
  simp only [inb, Bool.and_eq_true, decide_eq_true_eq] at h
  have h2 : x.toNatClampNeg < n := Nat.le_of_ble_eq_true h.2
  intro q
  rcases q with q | q
  · exact absurd q (Int32.not_lt.mpr h.1)
  · omega
theorem inb_lt {x : Int32} {n : Nat} (h : inb x n = true) : x.toNatClampNeg < n := by
  simp only [inb, Bool.and_eq_true] at h
  exact Nat.le_of_ble_eq_true h.2
/-- an array access: the type, the family, the owner, the place -/
def okA (t F i : Nat) (x : Int32) : Bool := isArr F && Nat.blt F 206 && Nat.beq (tA F) t && Nat.blt i (nA F) && inb x (lA F)
theorem okA_s {t F i : Nat} {x : Int32} (h : okA t F i x = true) : (dec (oA F i) = (10, F, i) ∧ oA F i < 606) ∧ tA F = t ∧ inb x (lA F) = true := by
  simp only [okA, Bool.and_eq_true] at h
  obtain ⟨⟨⟨⟨h1, h2⟩, h3⟩, h4⟩, h5⟩ := h
  exact ⟨dec_arr F (Nat.le_of_ble_eq_true h2) i (Nat.le_of_ble_eq_true h4) h1, Nat.eq_of_beq_eq_true h3, h5⟩
theorem okA_o {t F i : Nat} {x : Int32} (h : okA t F i x = true) : oOf F i = oA F i := by
  simp only [okA, Bool.and_eq_true] at h
  simp only [oOf, h.1.1.1.1, cond_true]
def b01 (x : Int32) : Bool := decide (x = 0 ∨ x = 1)
theorem b01_s {x : Int32} (h : b01 x = true) : x = 0 ∨ x = 1 := by simpa [b01] using h
def isC (x : Int32) : Bool := decide (0 ≤ x ∧ x ≤ 65535)
theorem isC_nI {x : Int32} (h : isC x = true) : ∃ j : Nat, j < 65536 ∧ x = nI j := by
  simp only [isC, decide_eq_true_eq] at h
  obtain ⟨j, hj, rfl⟩ := nI_of (Int32.not_lt.mpr h.1)
  refine ⟨j, ?_, rfl⟩
  have h2 := Int32.le_iff_toInt_le.mp h.2
  rw [nI_toInt hj] at h2
  have h3 : (65535 : Int32).toInt = 65535 := by decide
  omega
theorem isC_narrow {x : Int32} (h : isC x = true) : narrow .char (.int x) = .int x := by
  obtain ⟨j, hj, rfl⟩ := isC_nI h
  exact (pk_charN hj).1
theorem isC_fits {x : Int32} (h : isC x = true) : fits .char (.int x) = true := by
  obtain ⟨j, hj, rfl⟩ := isC_nI h
  exact (pk_charN hj).2
theorem isC_nar {x : Int32} (h : isC x = true) : vp_nar .char x = x := by
  simp only [vp_nar, isC_narrow h]
theorem b01_nar {x : Int32} (h : b01 x = true) : vp_nar .boolean x = x := by
  rcases b01_s h with rfl | rfl <;> rfl
theorem b01_narrow {x : Int32} (h : b01 x = true) : narrow .boolean (.int x) = .int x := by
  rcases b01_s h with rfl | rfl <;> rfl
theorem b01_fits {x : Int32} (h : b01 x = true) : fits .boolean (.int x) = true := by
  rcases b01_s h with rfl | rfl <;> decide
theorem upd_same (f : Nat → Int32) (k : Nat) (x : Int32) : upd f k x = fun k' => if k' = k then x else f k' := rfl
section GR
variable {p : Program} {l : Launch} {e : Env} {R : Room} {s : State} {m : MethodId} {args : Array Value} {below : List Frame} {meth : Method} {c : Code} {nL cells slots : Nat} {Q : State → Prop} {E : gE} {w : Nat → Int64} {σ : gSt} {pc q : Nat} {lv lv' : List (Nat × Value)} {st : List Value} {cc : ByteArray} {own : String} {ret : Option FieldType}
def G (p : Program) (l : Launch) (e : Env) (R : Room) (s : State) (m : MethodId) (args : Array Value) (below : List Frame) (meth : Method) (c : Code) (nL cells slots : Nat) (Q : State → Prop) (E : gE) (w : Nat → Int64) (σ : gSt) (pc : Nat) (lv : List (Nat × Value)) (st : List Value) : Prop :=
  ∀ (H : Heap) (locs : List Loc) (ls : Array Slot), va_P (eD E) vwCl (gW E w σ) H → va_S (fun q => eB E ≤ q) s.heap H locs → lv_has ls nL lv → W p l e R s m args below meth c H locs cells slots Q (F0 m pc ls st)
/-- what stands over a whole body -/
def gCx (p : Program) (s : State) (m : MethodId) (args : Array Value) (meth : Method) (c : Code) (cc : ByteArray) (nL : Nat) (own : String) (ret : Option FieldType) (E : gE) : Prop :=
  p.tables.exec = Jvm.exec ∧ c.code = cc ∧ c.maxLocals = nL ∧ s.vm.findClass own = some m.cls ∧ (∀ w ∈ WALL, w.before args s = true) ∧ gK E s ∧ meth.sig.returnType = ret ∧ meth.locks = false
theorem G_iconst (hC : gCx p s m args meth c cc nL own ret E) {n : Int} {v : Int32} (hv : Int32.ofInt n = v) (d : decode cc pc = .ok (.iconst n, 1)) (hq : pc + 1 = q) (k : G p l e R s m args below meth c nL cells slots Q E w σ q lv (.int v :: st)) : G p l e R s m args below meth c nL cells slots Q E w σ pc lv st := by
  subst hq
  intro H locs ls hP hS hl
  exact lv_iconst hC.1 hC.2.1 d hv (k H locs ls hP hS hl)
theorem G_bipush (hC : gCx p s m args meth c cc nL own ret E) {n : Int} {v : Int32} (hv : (Int8.ofInt n).toInt32 = v) (d : decode cc pc = .ok (.bipush n, 2)) (hq : pc + 2 = q) (k : G p l e R s m args below meth c nL cells slots Q E w σ q lv (.int v :: st)) : G p l e R s m args below meth c nL cells slots Q E w σ pc lv st := by
  subst hq
  intro H locs ls hP hS hl
  exact lv_bipush hC.1 hC.2.1 d hv (k H locs ls hP hS hl)
theorem G_sipush (hC : gCx p s m args meth c cc nL own ret E) {n : Int} {v : Int32} (hv : (Int16.ofInt n).toInt32 = v) (d : decode cc pc = .ok (.sipush n, 3)) (hq : pc + 3 = q) (k : G p l e R s m args below meth c nL cells slots Q E w σ q lv (.int v :: st)) : G p l e R s m args below meth c nL cells slots Q E w σ pc lv st := by
  subst hq
  intro H locs ls hP hS hl
  exact lv_sipush hC.1 hC.2.1 d hv (k H locs ls hP hS hl)
theorem G_iload_n (hC : gCx p s m args meth c cc nL own ret E) {n : Fin 4} {x : Int32} (hx : lkp lv n = some (.int x)) (d : decode cc pc = .ok (.iload_n n, 1)) (hq : pc + 1 = q) (k : G p l e R s m args below meth c nL cells slots Q E w σ q lv (.int x :: st)) : G p l e R s m args below meth c nL cells slots Q E w σ pc lv st := by
  subst hq
  intro H locs ls hP hS hl
  exact lv_iload_n hC.1 hC.2.1 d rfl (lkp_at hl hx) (k H locs ls hP hS hl)
theorem G_iload (hC : gCx p s m args meth c cc nL own ret E) {n : Nat} {x : Int32} (hx : lkp lv n = some (.int x)) (d : decode cc pc = .ok (.iload n, 2)) (hq : pc + 2 = q) (k : G p l e R s m args below meth c nL cells slots Q E w σ q lv (.int x :: st)) : G p l e R s m args below meth c nL cells slots Q E w σ pc lv st := by
  subst hq
  intro H locs ls hP hS hl
  exact lv_iload hC.1 hC.2.1 d (lkp_at hl hx) (k H locs ls hP hS hl)
theorem G_aload_n (hC : gCx p s m args meth c cc nL own ret E) {n : Fin 4} {x : Nat} (hx : lkp lv n = some (.ref x)) (d : decode cc pc = .ok (.aload_n n, 1)) (hq : pc + 1 = q) (k : G p l e R s m args below meth c nL cells slots Q E w σ q lv (.ref x :: st)) : G p l e R s m args below meth c nL cells slots Q E w σ pc lv st := by
  subst hq
  intro H locs ls hP hS hl
  exact lv_aload_n hC.1 hC.2.1 d rfl (lkp_at hl hx) (k H locs ls hP hS hl)
theorem G_aload (hC : gCx p s m args meth c cc nL own ret E) {n : Nat} {x : Nat} (hx : lkp lv n = some (.ref x)) (d : decode cc pc = .ok (.aload n, 2)) (hq : pc + 2 = q) (k : G p l e R s m args below meth c nL cells slots Q E w σ q lv (.ref x :: st)) : G p l e R s m args below meth c nL cells slots Q E w σ pc lv st := by
  subst hq
  intro H locs ls hP hS hl
  exact lv_aload hC.1 hC.2.1 d (lkp_at hl hx) (k H locs ls hP hS hl)
theorem G_istore_n (hC : gCx p s m args meth c cc nL own ret E) {n : Fin 4} {x : Int32} (hn : (n : Nat) < nL) (hv : ((n : Nat), Value.int x) :: lv.filter (fun q => !(q.1 == (n : Nat)) && !(q.1 + 1 == (n : Nat) && q.2.category == 2)) = lv') (d : decode cc pc = .ok (.istore_n n, 1)) (hq : pc + 1 = q) (k : G p l e R s m args below meth c nL cells slots Q E w σ q lv' st) : G p l e R s m args below meth c nL cells slots Q E w σ pc lv (.int x :: st) := by
  subst hq
  intro H locs ls hP hS hl
  exact lv_istore_n hC.1 hC.2.1 d rfl hl hn hv (fun ls' hl' => k H locs ls' hP hS hl')
theorem G_istore (hC : gCx p s m args meth c cc nL own ret E) {n : Nat} {x : Int32} (hn : n < nL) (hv : (n, Value.int x) :: lv.filter (fun q => !(q.1 == n) && !(q.1 + 1 == n && q.2.category == 2)) = lv') (d : decode cc pc = .ok (.istore n, 2)) (hq : pc + 2 = q) (k : G p l e R s m args below meth c nL cells slots Q E w σ q lv' st) : G p l e R s m args below meth c nL cells slots Q E w σ pc lv (.int x :: st) := by
  subst hq
  intro H locs ls hP hS hl
  exact lv_istore hC.1 hC.2.1 d hl hn hv (fun ls' hl' => k H locs ls' hP hS hl')
theorem G_astore_n (hC : gCx p s m args meth c cc nL own ret E) {n : Fin 4} {x : Nat} (hn : (n : Nat) < nL) (hv : ((n : Nat), Value.ref x) :: lv.filter (fun q => !(q.1 == (n : Nat)) && !(q.1 + 1 == (n : Nat) && q.2.category == 2)) = lv') (d : decode cc pc = .ok (.astore_n n, 1)) (hq : pc + 1 = q) (k : G p l e R s m args below meth c nL cells slots Q E w σ q lv' st) : G p l e R s m args below meth c nL cells slots Q E w σ pc lv (.ref x :: st) := by
  subst hq
  intro H locs ls hP hS hl
  exact lv_astore_n hC.1 hC.2.1 d rfl hl hn hv (fun ls' hl' => k H locs ls' hP hS hl')
theorem G_astore (hC : gCx p s m args meth c cc nL own ret E) {n : Nat} {x : Nat} (hn : n < nL) (hv : (n, Value.ref x) :: lv.filter (fun q => !(q.1 == n) && !(q.1 + 1 == n && q.2.category == 2)) = lv') (d : decode cc pc = .ok (.astore n, 2)) (hq : pc + 2 = q) (k : G p l e R s m args below meth c nL cells slots Q E w σ q lv' st) : G p l e R s m args below meth c nL cells slots Q E w σ pc lv (.ref x :: st) := by
  subst hq
  intro H locs ls hP hS hl
  exact lv_astore hC.1 hC.2.1 d hl hn hv (fun ls' hl' => k H locs ls' hP hS hl')
theorem G_iinc (hC : gCx p s m args meth c cc nL own ret E) {i n : Nat} {z : Int} {x v : Int32} (hk : lv[n]? = some (i, .int x)) (hx : x + Int32.ofInt z = v) (hn : i < nL) (hv : (i, Value.int v) :: lv.filter (fun q => !(q.1 == i) && !(q.1 + 1 == i && q.2.category == 2)) = lv') (d : decode cc pc = .ok (.iinc i z, 3)) (hq : pc + 3 = q) (k : G p l e R s m args below meth c nL cells slots Q E w σ q lv' st) : G p l e R s m args below meth c nL cells slots Q E w σ pc lv st := by
  subst hq
  intro H locs ls hP hS hl
  exact lv_iinc hC.1 hC.2.1 d hl hk hx hn hv (fun ls' hl' => k H locs ls' hP hS hl')
theorem G_iadd (hC : gCx p s m args meth c cc nL own ret E) {x y : Int32} (d : decode cc pc = .ok (.iadd, 1)) (hq : pc + 1 = q) (k : G p l e R s m args below meth c nL cells slots Q E w σ q lv (.int (x + y) :: st)) : G p l e R s m args below meth c nL cells slots Q E w σ pc lv (.int y :: .int x :: st) := by
  subst hq
  intro H locs ls hP hS hl
  exact lv_iadd hC.1 hC.2.1 d (k H locs ls hP hS hl)
theorem G_isub (hC : gCx p s m args meth c cc nL own ret E) {x y : Int32} (d : decode cc pc = .ok (.isub, 1)) (hq : pc + 1 = q) (k : G p l e R s m args below meth c nL cells slots Q E w σ q lv (.int (x - y) :: st)) : G p l e R s m args below meth c nL cells slots Q E w σ pc lv (.int y :: .int x :: st) := by
  subst hq
  intro H locs ls hP hS hl
  exact lv_isub hC.1 hC.2.1 d (k H locs ls hP hS hl)
theorem G_imul (hC : gCx p s m args meth c cc nL own ret E) {x y : Int32} (d : decode cc pc = .ok (.imul, 1)) (hq : pc + 1 = q) (k : G p l e R s m args below meth c nL cells slots Q E w σ q lv (.int (x * y) :: st)) : G p l e R s m args below meth c nL cells slots Q E w σ pc lv (.int y :: .int x :: st) := by
  subst hq
  intro H locs ls hP hS hl
  exact lv_imul hC.1 hC.2.1 d (k H locs ls hP hS hl)
theorem G_iand (hC : gCx p s m args meth c cc nL own ret E) {x y : Int32} (d : decode cc pc = .ok (.iand, 1)) (hq : pc + 1 = q) (k : G p l e R s m args below meth c nL cells slots Q E w σ q lv (.int (x &&& y) :: st)) : G p l e R s m args below meth c nL cells slots Q E w σ pc lv (.int y :: .int x :: st) := by
  subst hq
  intro H locs ls hP hS hl
  exact lv_iand hC.1 hC.2.1 d (k H locs ls hP hS hl)
theorem G_ior (hC : gCx p s m args meth c cc nL own ret E) {x y : Int32} (d : decode cc pc = .ok (.ior, 1)) (hq : pc + 1 = q) (k : G p l e R s m args below meth c nL cells slots Q E w σ q lv (.int (x ||| y) :: st)) : G p l e R s m args below meth c nL cells slots Q E w σ pc lv (.int y :: .int x :: st) := by
  subst hq
  intro H locs ls hP hS hl
  exact lv_ior hC.1 hC.2.1 d (k H locs ls hP hS hl)
theorem G_ishl (hC : gCx p s m args meth c cc nL own ret E) {x y : Int32} (d : decode cc pc = .ok (.ishl, 1)) (hq : pc + 1 = q) (k : G p l e R s m args below meth c nL cells slots Q E w σ q lv (.int (x <<< (y &&& 31)) :: st)) : G p l e R s m args below meth c nL cells slots Q E w σ pc lv (.int y :: .int x :: st) := by
  subst hq
  intro H locs ls hP hS hl
  exact lv_ishl hC.1 hC.2.1 d (k H locs ls hP hS hl)
theorem G_ishr (hC : gCx p s m args meth c cc nL own ret E) {x y : Int32} (d : decode cc pc = .ok (.ishr, 1)) (hq : pc + 1 = q) (k : G p l e R s m args below meth c nL cells slots Q E w σ q lv (.int (x >>> (y &&& 31)) :: st)) : G p l e R s m args below meth c nL cells slots Q E w σ pc lv (.int y :: .int x :: st) := by
  subst hq
  intro H locs ls hP hS hl
  exact lv_ishr hC.1 hC.2.1 d (k H locs ls hP hS hl)
theorem G_idiv (hC : gCx p s m args meth c cc nL own ret E) {x y : Int32} (hne : ¬ y = 0) (d : decode cc pc = .ok (.idiv, 1)) (hq : pc + 1 = q) (k : G p l e R s m args below meth c nL cells slots Q E w σ q lv (.int (x / y) :: st)) : G p l e R s m args below meth c nL cells slots Q E w σ pc lv (.int y :: .int x :: st) := by
  subst hq
  intro H locs ls hP hS hl
  exact lv_idiv hC.1 hC.2.1 d hne (k H locs ls hP hS hl)
theorem G_irem (hC : gCx p s m args meth c cc nL own ret E) {x y : Int32} (hne : ¬ y = 0) (d : decode cc pc = .ok (.irem, 1)) (hq : pc + 1 = q) (k : G p l e R s m args below meth c nL cells slots Q E w σ q lv (.int (x - (x / y) * y) :: st)) : G p l e R s m args below meth c nL cells slots Q E w σ pc lv (.int y :: .int x :: st) := by
  subst hq
  intro H locs ls hP hS hl
  exact lv_irem hC.1 hC.2.1 d hne (k H locs ls hP hS hl)
theorem G_i2c (hC : gCx p s m args meth c cc nL own ret E) {x v : Int32} (hv : (x.toUInt32 % 65536).toInt32 = v) (d : decode cc pc = .ok (.i2c, 1)) (hq : pc + 1 = q) (k : G p l e R s m args below meth c nL cells slots Q E w σ q lv (.int v :: st)) : G p l e R s m args below meth c nL cells slots Q E w σ pc lv (.int x :: st) := by
  subst hq
  intro H locs ls hP hS hl
  exact lv_i2c hC.1 hC.2.1 d hv (k H locs ls hP hS hl)
theorem G_dup (hC : gCx p s m args meth c cc nL own ret E) {v : Value} (hv : v.category = 1) (d : decode cc pc = .ok (.dup, 1)) (hq : pc + 1 = q) (k : G p l e R s m args below meth c nL cells slots Q E w σ q lv (v :: v :: st)) : G p l e R s m args below meth c nL cells slots Q E w σ pc lv (v :: st) := by
  subst hq
  intro H locs ls hP hS hl
  exact lv_dup hC.1 hC.2.1 d hv (k H locs ls hP hS hl)
theorem G_dup2 (hC : gCx p s m args meth c cc nL own ret E) {v u : Value} (hv : v.category = 1) (hu : u.category = 1) (d : decode cc pc = .ok (.dup2, 1)) (hq : pc + 1 = q) (k : G p l e R s m args below meth c nL cells slots Q E w σ q lv (v :: u :: v :: u :: st)) : G p l e R s m args below meth c nL cells slots Q E w σ pc lv (v :: u :: st) := by
  subst hq
  intro H locs ls hP hS hl
  exact lv_dup2_11 hC.1 hC.2.1 d hv hu (k H locs ls hP hS hl)
theorem G_dup_x1 (hC : gCx p s m args meth c cc nL own ret E) {v u : Value} (hv : v.category = 1) (hu : u.category = 1) (d : decode cc pc = .ok (.dup_x1, 1)) (hq : pc + 1 = q) (k : G p l e R s m args below meth c nL cells slots Q E w σ q lv (v :: u :: v :: st)) : G p l e R s m args below meth c nL cells slots Q E w σ pc lv (v :: u :: st) := by
  subst hq
  intro H locs ls hP hS hl
  exact lv_dup_x1 hC.1 hC.2.1 d hv hu (k H locs ls hP hS hl)
theorem G_pop (hC : gCx p s m args meth c cc nL own ret E) {v : Value} (hv : v.category = 1) (d : decode cc pc = .ok (.pop, 1)) (hq : pc + 1 = q) (k : G p l e R s m args below meth c nL cells slots Q E w σ q lv st) : G p l e R s m args below meth c nL cells slots Q E w σ pc lv (v :: st) := by
  subst hq
  intro H locs ls hP hS hl
  exact lv_pop hC.1 hC.2.1 d hv (k H locs ls hP hS hl)
theorem G_if_eq (hC : gCx p s m args meth c cc nL own ret E) {x : Int32} {off : Int} {tgt : Nat} (d : decode cc pc = .ok (.ifCond .eq off, 3)) (ht : (pc : Int) + off = (tgt : Int)) (hq : pc + 3 = q) (kt : x = 0 → G p l e R s m args below meth c nL cells slots Q E w σ tgt lv st) (kf : ¬ x = 0 → G p l e R s m args below meth c nL cells slots Q E w σ q lv st) : G p l e R s m args below meth c nL cells slots Q E w σ pc lv (.int x :: st) := by
  subst hq
  intro H locs ls hP hS hl
  exact lv_if_eq hC.1 hC.2.1 d ht (fun h => kt h H locs ls hP hS hl) (fun h => kf h H locs ls hP hS hl)
theorem G_if_ne (hC : gCx p s m args meth c cc nL own ret E) {x : Int32} {off : Int} {tgt : Nat} (d : decode cc pc = .ok (.ifCond .ne off, 3)) (ht : (pc : Int) + off = (tgt : Int)) (hq : pc + 3 = q) (kt : ¬ x = 0 → G p l e R s m args below meth c nL cells slots Q E w σ tgt lv st) (kf : x = 0 → G p l e R s m args below meth c nL cells slots Q E w σ q lv st) : G p l e R s m args below meth c nL cells slots Q E w σ pc lv (.int x :: st) := by
  subst hq
  intro H locs ls hP hS hl
  exact lv_if_ne hC.1 hC.2.1 d ht (fun h => kt h H locs ls hP hS hl) (fun h => kf h H locs ls hP hS hl)
theorem G_if_lt (hC : gCx p s m args meth c cc nL own ret E) {x : Int32} {off : Int} {tgt : Nat} (d : decode cc pc = .ok (.ifCond .lt off, 3)) (ht : (pc : Int) + off = (tgt : Int)) (hq : pc + 3 = q) (kt : x < 0 → G p l e R s m args below meth c nL cells slots Q E w σ tgt lv st) (kf : ¬ x < 0 → G p l e R s m args below meth c nL cells slots Q E w σ q lv st) : G p l e R s m args below meth c nL cells slots Q E w σ pc lv (.int x :: st) := by
  subst hq
  intro H locs ls hP hS hl
  exact lv_if_lt hC.1 hC.2.1 d ht (fun h => kt h H locs ls hP hS hl) (fun h => kf h H locs ls hP hS hl)
theorem G_if_ge (hC : gCx p s m args meth c cc nL own ret E) {x : Int32} {off : Int} {tgt : Nat} (d : decode cc pc = .ok (.ifCond .ge off, 3)) (ht : (pc : Int) + off = (tgt : Int)) (hq : pc + 3 = q) (kt : 0 ≤ x → G p l e R s m args below meth c nL cells slots Q E w σ tgt lv st) (kf : ¬ 0 ≤ x → G p l e R s m args below meth c nL cells slots Q E w σ q lv st) : G p l e R s m args below meth c nL cells slots Q E w σ pc lv (.int x :: st) := by
  subst hq
  intro H locs ls hP hS hl
  exact lv_if_ge hC.1 hC.2.1 d ht (fun h => kt h H locs ls hP hS hl) (fun h => kf h H locs ls hP hS hl)
theorem G_if_gt (hC : gCx p s m args meth c cc nL own ret E) {x : Int32} {off : Int} {tgt : Nat} (d : decode cc pc = .ok (.ifCond .gt off, 3)) (ht : (pc : Int) + off = (tgt : Int)) (hq : pc + 3 = q) (kt : 0 < x → G p l e R s m args below meth c nL cells slots Q E w σ tgt lv st) (kf : ¬ 0 < x → G p l e R s m args below meth c nL cells slots Q E w σ q lv st) : G p l e R s m args below meth c nL cells slots Q E w σ pc lv (.int x :: st) := by
  subst hq
  intro H locs ls hP hS hl
  exact lv_if_gt hC.1 hC.2.1 d ht (fun h => kt h H locs ls hP hS hl) (fun h => kf h H locs ls hP hS hl)
theorem G_if_le (hC : gCx p s m args meth c cc nL own ret E) {x : Int32} {off : Int} {tgt : Nat} (d : decode cc pc = .ok (.ifCond .le off, 3)) (ht : (pc : Int) + off = (tgt : Int)) (hq : pc + 3 = q) (kt : x ≤ 0 → G p l e R s m args below meth c nL cells slots Q E w σ tgt lv st) (kf : ¬ x ≤ 0 → G p l e R s m args below meth c nL cells slots Q E w σ q lv st) : G p l e R s m args below meth c nL cells slots Q E w σ pc lv (.int x :: st) := by
  subst hq
  intro H locs ls hP hS hl
  exact lv_if_le hC.1 hC.2.1 d ht (fun h => kt h H locs ls hP hS hl) (fun h => kf h H locs ls hP hS hl)
theorem G_icmp_eq (hC : gCx p s m args meth c cc nL own ret E) {x y : Int32} {off : Int} {tgt : Nat} (d : decode cc pc = .ok (.if_icmp .eq off, 3)) (ht : (pc : Int) + off = (tgt : Int)) (hq : pc + 3 = q) (kt : x = y → G p l e R s m args below meth c nL cells slots Q E w σ tgt lv st) (kf : ¬ x = y → G p l e R s m args below meth c nL cells slots Q E w σ q lv st) : G p l e R s m args below meth c nL cells slots Q E w σ pc lv (.int y :: .int x :: st) := by
  subst hq
  intro H locs ls hP hS hl
  exact lv_icmp_eq hC.1 hC.2.1 d ht (fun h => kt h H locs ls hP hS hl) (fun h => kf h H locs ls hP hS hl)
theorem G_icmp_ne (hC : gCx p s m args meth c cc nL own ret E) {x y : Int32} {off : Int} {tgt : Nat} (d : decode cc pc = .ok (.if_icmp .ne off, 3)) (ht : (pc : Int) + off = (tgt : Int)) (hq : pc + 3 = q) (kt : ¬ x = y → G p l e R s m args below meth c nL cells slots Q E w σ tgt lv st) (kf : x = y → G p l e R s m args below meth c nL cells slots Q E w σ q lv st) : G p l e R s m args below meth c nL cells slots Q E w σ pc lv (.int y :: .int x :: st) := by
  subst hq
  intro H locs ls hP hS hl
  exact lv_icmp_ne hC.1 hC.2.1 d ht (fun h => kt h H locs ls hP hS hl) (fun h => kf h H locs ls hP hS hl)
theorem G_icmp_lt (hC : gCx p s m args meth c cc nL own ret E) {x y : Int32} {off : Int} {tgt : Nat} (d : decode cc pc = .ok (.if_icmp .lt off, 3)) (ht : (pc : Int) + off = (tgt : Int)) (hq : pc + 3 = q) (kt : x < y → G p l e R s m args below meth c nL cells slots Q E w σ tgt lv st) (kf : ¬ x < y → G p l e R s m args below meth c nL cells slots Q E w σ q lv st) : G p l e R s m args below meth c nL cells slots Q E w σ pc lv (.int y :: .int x :: st) := by
  subst hq
  intro H locs ls hP hS hl
  exact lv_icmp_lt hC.1 hC.2.1 d ht (fun h => kt h H locs ls hP hS hl) (fun h => kf h H locs ls hP hS hl)
theorem G_icmp_ge (hC : gCx p s m args meth c cc nL own ret E) {x y : Int32} {off : Int} {tgt : Nat} (d : decode cc pc = .ok (.if_icmp .ge off, 3)) (ht : (pc : Int) + off = (tgt : Int)) (hq : pc + 3 = q) (kt : y ≤ x → G p l e R s m args below meth c nL cells slots Q E w σ tgt lv st) (kf : ¬ y ≤ x → G p l e R s m args below meth c nL cells slots Q E w σ q lv st) : G p l e R s m args below meth c nL cells slots Q E w σ pc lv (.int y :: .int x :: st) := by
  subst hq
  intro H locs ls hP hS hl
  exact lv_icmp_ge hC.1 hC.2.1 d ht (fun h => kt h H locs ls hP hS hl) (fun h => kf h H locs ls hP hS hl)
theorem G_icmp_gt (hC : gCx p s m args meth c cc nL own ret E) {x y : Int32} {off : Int} {tgt : Nat} (d : decode cc pc = .ok (.if_icmp .gt off, 3)) (ht : (pc : Int) + off = (tgt : Int)) (hq : pc + 3 = q) (kt : y < x → G p l e R s m args below meth c nL cells slots Q E w σ tgt lv st) (kf : ¬ y < x → G p l e R s m args below meth c nL cells slots Q E w σ q lv st) : G p l e R s m args below meth c nL cells slots Q E w σ pc lv (.int y :: .int x :: st) := by
  subst hq
  intro H locs ls hP hS hl
  exact lv_icmp_gt hC.1 hC.2.1 d ht (fun h => kt h H locs ls hP hS hl) (fun h => kf h H locs ls hP hS hl)
theorem G_icmp_le (hC : gCx p s m args meth c cc nL own ret E) {x y : Int32} {off : Int} {tgt : Nat} (d : decode cc pc = .ok (.if_icmp .le off, 3)) (ht : (pc : Int) + off = (tgt : Int)) (hq : pc + 3 = q) (kt : x ≤ y → G p l e R s m args below meth c nL cells slots Q E w σ tgt lv st) (kf : ¬ x ≤ y → G p l e R s m args below meth c nL cells slots Q E w σ q lv st) : G p l e R s m args below meth c nL cells slots Q E w σ pc lv (.int y :: .int x :: st) := by
  subst hq
  intro H locs ls hP hS hl
  exact lv_icmp_le hC.1 hC.2.1 d ht (fun h => kt h H locs ls hP hS hl) (fun h => kf h H locs ls hP hS hl)
theorem G_goto (hC : gCx p s m args meth c cc nL own ret E) {off : Int} {tgt : Nat} (d : decode cc pc = .ok (.goto off, 3)) (ht : (pc : Int) + off = (tgt : Int)) (k : G p l e R s m args below meth c nL cells slots Q E w σ tgt lv st) : G p l e R s m args below meth c nL cells slots Q E w σ pc lv st := by
  intro H locs ls hP hS hl
  exact lv_goto hC.1 hC.2.1 d ht (k H locs ls hP hS hl)
theorem G_lv (ks : List Nat) (h : lv_pick lv ks = lv') (k : G p l e R s m args below meth c nL cells slots Q E w σ pc lv' st) : G p l e R s m args below meth c nL cells slots Q E w σ pc lv st := fun H locs ls hP hS hl => k H locs ls hP hS (lv_sub hl ks h)
def okF (x : Int32) : Bool := decide (0 ≤ x) && Nat.blt x.toNatClampNeg 5
theorem okF_lt {x : Int32} (h : okF x = true) : x.toNatClampNeg < 5 := by
  simp only [okF, Bool.and_eq_true] at h
  exact Nat.le_of_ble_eq_true h.2
theorem okF_eq {x y : Int32} (hx : okF x = true) (hy : okF y = true) (h : x.toNatClampNeg = y.toNatClampNeg) : x = y := by
  simp only [okF, Bool.and_eq_true, decide_eq_true_eq] at hx hy
  obtain ⟨j, hj, rfl⟩ := nI_of (Int32.not_lt.mpr hx.1)
  obtain ⟨k, hk, rfl⟩ := nI_of (Int32.not_lt.mpr hy.1)
  rw [nI_clamp hj, nI_clamp hk] at h
  rw [h]
theorem G_acmp_ne (hC : gCx p s m args meth c cc nL own ret E) {x y : Int32} {off : Int} {tgt : Nat} (hx : okF x = true) (hy : okF y = true) (d : decode cc pc = .ok (.if_acmp .ne off, 3)) (ht : (pc : Int) + off = (tgt : Int)) (hq : pc + 3 = q) (kt : ¬ x = y → G p l e R s m args below meth c nL cells slots Q E w σ tgt lv st) (kf : x = y → G p l e R s m args below meth c nL cells slots Q E w σ q lv st) : G p l e R s m args below meth c nL cells slots Q E w σ pc lv (.ref (eF E y.toNatClampNeg) :: .ref (eF E x.toNatClampNeg) :: st) := by
  subst hq
  intro H locs ls hP hS hl
  exact lv_acmp_ne (rx := some (eF E x.toNatClampNeg)) (ry := some (eF E y.toNatClampNeg)) hC.1 hC.2.1 d ht (fun h => kt (fun z => h (by rw [z])) H locs ls hP hS hl) (fun h => kf (okF_eq hx hy (hC.2.2.2.2.2.1.2.2.2.2.2.2.2.1 _ _ (okF_lt hx) (okF_lt hy) (Option.some.inj h))) H locs ls hP hS hl)
theorem G_get (hC : gCx p s m args meth c cc nL own ret E) {o ci k N idx : Nat} {C ref : String} {T : u_T} {fs : List Value} {v : Value} (ho : o < 606) (hc : gC E w σ o = .inr (ci, fs)) (hcl : vwCl[ci]? = some (C, T, N)) (hin : ∀ w ∈ u_ws C T N, w ∈ WALL) (hk : k < N) (hlink : Cond.fieldLink own idx ref (T k).2.1 (T k).2.2.1 ∈ WALL) (href : (T k).1 = ref) (hv : fs[k]? = some v) (d : decode cc pc = .ok (.getfield idx, 3)) (hq : pc + 3 = q) (kk : G p l e R s m args below meth c nL cells slots Q E w σ q lv (v :: st)) : G p l e R s m args below meth c nL cells slots Q E w σ pc lv (.ref (eB E + o) :: st) := by
  subst hq
  subst href
  intro H locs ls hP hS hl
  exact va_get hC.1 hC.2.1 hC.2.2.2.2.1 hin hC.2.2.2.1 hC.2.2.2.2.2.1.1 hP o (by rw [gW_at ho, hc]) hcl k hk (hC.2.2.2.2.1 _ hlink) (fun _ h => h) hv d (kk H locs ls hP hS hl)
theorem G_getN (hC : gCx p s m args meth c cc nL own ret E) {host : String} {o ci k N idx : Nat} {C ref : String} {T : u_T} {fs : List Value} {v : Value} (ho : o < 606) (hc : gC E w σ o = .inr (ci, fs)) (hcl : vwCl[ci]? = some (C, T, N)) (hin : ∀ w ∈ u_ws C T N, w ∈ WALL) (hk : k < N) (hlink : Cond.fieldLinkNest own idx ref (T k).2.1 (T k).2.2.1 host ∈ NWL) (href : (T k).1 = ref) (hv : fs[k]? = some v) (d : decode cc pc = .ok (.getfield idx, 3)) (hq : pc + 3 = q) (kk : G p l e R s m args below meth c nL cells slots Q E w σ q lv (v :: st)) : G p l e R s m args below meth c nL cells slots Q E w σ pc lv (.ref (eB E + o) :: st) := by
  subst hq
  subst href
  intro H locs ls hP hS hl
  exact va_getN hC.1 hC.2.1 hC.2.2.2.2.1 hin hC.2.2.2.1 hC.2.2.2.2.2.1.1 hP o (by rw [gW_at ho, hc]) hcl k hk (va_Nw.use rfl (hC.2.2.2.2.2.1.2.1 _ hlink)) (fun _ h => h) hv d (kk H locs ls hP hS hl)
theorem G_put (hC : gCx p s m args meth c cc nL own ret E) {o ci k N idx : Nat} {C ref : String} {T : u_T} {fs : List Value} (ho : o < 606) (hc : gC E w σ o = .inr (ci, fs)) (hcl : vwCl[ci]? = some (C, T, N)) (hin : ∀ w ∈ u_ws C T N, w ∈ WALL) (hk : k < N) (hlink : Cond.fieldLink own idx ref (T k).2.1 (T k).2.2.1 ∈ WALL) (href : (T k).1 = ref) {F i : Nat} {x : Int32} (hoo : oOf F i = o) (hset : gC E w (gU σ F i 0 x) o = .inr (ci, fs.set k (.int x))) (ty0 : Nat → FieldType) (hty : ∀ k, k < N → parseFieldDescriptor (T k).2.2.1 = some (ty0 k)) (hnm : ∀ a, a < N → ∀ b, b < N → a ≠ b → (T a).2.1 ≠ (T b).2.1) (hfin : (T k).2.2.2 = false) {ty : FieldType} (hd : parseFieldDescriptor (T k).2.2.1 = some ty) (hn : narrow ty (.int x) = .int x) (hfit : fits ty (.int x) = true) (hlen : k < fs.length) (d : decode cc pc = .ok (.putfield idx, 3)) (hq : pc + 3 = q) (kk : G p l e R s m args below meth c nL cells slots Q E w (gU σ F i 0 x) q lv st) : G p l e R s m args below meth c nL cells slots Q E w σ pc lv (.int x :: .ref (eB E + o) :: st) := by
  subst hq
  subst href
  intro H locs ls hP hS hl
  refine va_put hC.1 hC.2.1 hC.2.2.2.2.1 hin ty0 hty hnm hC.2.2.2.1 hC.2.2.2.2.2.1.1 hP gD hS o (by rw [gW_at ho, hc]) hcl k hk (hC.2.2.2.2.1 _ hlink) (fun _ h => h) hfin hd hn hfit hlen d (fun H1 locs1 hP1 _ hS1 => ?_)
  rw [gW_set hset (fun o' h1 h2 => by rw [gU_R]; exact gC_ne h1 (by rw [hoo]; exact h2))] at hP1
  exact kk H1 locs1 ls hP1 hS1 hl
theorem G_putN (hC : gCx p s m args meth c cc nL own ret E) {host : String} {o ci k N idx : Nat} {C ref : String} {T : u_T} {fs : List Value} (ho : o < 606) (hc : gC E w σ o = .inr (ci, fs)) (hcl : vwCl[ci]? = some (C, T, N)) (hin : ∀ w ∈ u_ws C T N, w ∈ WALL) (hk : k < N) (hlink : Cond.fieldLinkNest own idx ref (T k).2.1 (T k).2.2.1 host ∈ NWL) (href : (T k).1 = ref) {F i : Nat} {x : Int32} (hoo : oOf F i = o) (hset : gC E w (gU σ F i 0 x) o = .inr (ci, fs.set k (.int x))) (ty0 : Nat → FieldType) (hty : ∀ k, k < N → parseFieldDescriptor (T k).2.2.1 = some (ty0 k)) (hnm : ∀ a, a < N → ∀ b, b < N → a ≠ b → (T a).2.1 ≠ (T b).2.1) (hfin : (T k).2.2.2 = false) {ty : FieldType} (hd : parseFieldDescriptor (T k).2.2.1 = some ty) (hn : narrow ty (.int x) = .int x) (hfit : fits ty (.int x) = true) (hlen : k < fs.length) (d : decode cc pc = .ok (.putfield idx, 3)) (hq : pc + 3 = q) (kk : G p l e R s m args below meth c nL cells slots Q E w (gU σ F i 0 x) q lv st) : G p l e R s m args below meth c nL cells slots Q E w σ pc lv (.int x :: .ref (eB E + o) :: st) := by
  subst hq
  subst href
  intro H locs ls hP hS hl
  refine va_putN hC.1 hC.2.1 hC.2.2.2.2.1 hin ty0 hty hnm hC.2.2.2.1 hC.2.2.2.2.2.1.1 hP gD hS o (by rw [gW_at ho, hc]) hcl k hk (va_Nw.use rfl (hC.2.2.2.2.2.1.2.1 _ hlink)) (fun _ h => h) hfin hd hn hfit hlen d (fun H1 locs1 hP1 _ hS1 => ?_)
  rw [gW_set hset (fun o' h1 h2 => by rw [gU_R]; exact gC_ne h1 (by rw [hoo]; exact h2))] at hP1
  exact kk H1 locs1 ls hP1 hS1 hl
theorem G_iald (hC : gCx p s m args meth c cc nL own ret E) {F i : Nat} {x : Int32} (h : okA 1 F i x = true) (d : decode cc pc = .ok (.iaload, 1)) (hq : pc + 1 = q) (k : G p l e R s m args below meth c nL cells slots Q E w σ q lv (.int (σ F i x.toNatClampNeg) :: st)) : G p l e R s m args below meth c nL cells slots Q E w σ pc lv (.int x :: .ref (eB E + oA F i) :: st) := by
  subst hq
  intro H locs ls hP hS hl
  obtain ⟨⟨h1, h2⟩, h3, h4⟩ := okA_s h
  exact va_iald (f := fun k => σ F i k) (cA := eT E 1) hC.1 hC.2.1 hC.2.2.2.2.2.1.1 hP (oA F i) 1 (by rw [gW_at h2, gC, h1]; simp only [cellK, h3]) rfl (inb_in h4) d (k H locs ls hP hS hl)
theorem G_zald (hC : gCx p s m args meth c cc nL own ret E) {F i : Nat} {x : Int32} (h : okA 2 F i x = true) (d : decode cc pc = .ok (.baload, 1)) (hq : pc + 1 = q) (k : G p l e R s m args below meth c nL cells slots Q E w σ q lv (.int (σ F i x.toNatClampNeg) :: st)) : G p l e R s m args below meth c nL cells slots Q E w σ pc lv (.int x :: .ref (eB E + oA F i) :: st) := by
  subst hq
  intro H locs ls hP hS hl
  obtain ⟨⟨h1, h2⟩, h3, h4⟩ := okA_s h
  exact va_zald (f := fun k => σ F i k) (cA := eT E 2) hC.1 hC.2.1 hC.2.2.2.2.2.1.1 hP (oA F i) 2 (by rw [gW_at h2, gC, h1]; simp only [cellK, h3]) rfl (inb_in h4) d (k H locs ls hP hS hl)
theorem G_cald (hC : gCx p s m args meth c cc nL own ret E) {F i : Nat} {x : Int32} (h : okA 0 F i x = true) (d : decode cc pc = .ok (.caload, 1)) (hq : pc + 1 = q) (k : G p l e R s m args below meth c nL cells slots Q E w σ q lv (.int (σ F i x.toNatClampNeg) :: st)) : G p l e R s m args below meth c nL cells slots Q E w σ pc lv (.int x :: .ref (eB E + oA F i) :: st) := by
  subst hq
  intro H locs ls hP hS hl
  obtain ⟨⟨h1, h2⟩, h3, h4⟩ := okA_s h
  exact va_cald (f := fun k => σ F i k) (cA := eT E 0) hC.1 hC.2.1 hC.2.2.2.2.2.1.1 hP (oA F i) 0 (by rw [gW_at h2, gC, h1]; simp only [cellK, h3]) rfl (inb_in h4) d (k H locs ls hP hS hl)
theorem G_iast (hC : gCx p s m args meth c cc nL own ret E) {F i : Nat} {x y : Int32} (h : okA 1 F i x = true) (d : decode cc pc = .ok (.iastore, 1)) (hq : pc + 1 = q) (k : G p l e R s m args below meth c nL cells slots Q E w (gU σ F i x.toNatClampNeg y) q lv st) : G p l e R s m args below meth c nL cells slots Q E w σ pc lv (.int y :: .int x :: .ref (eB E + oA F i) :: st) := by
  subst hq
  intro H locs ls hP hS hl
  obtain ⟨⟨h1, h2⟩, h3, h4⟩ := okA_s h
  refine va_iast (f := fun k => σ F i k) (cA := eT E 1) hC.1 hC.2.1 hC.2.2.2.2.2.1.1 hP gD hS (oA F i) 1 (by rw [gW_at h2, gC, h1]; simp only [cellK, h3]) rfl (inb_in h4) d (fun H1 locs1 hP1 _ hS1 => ?_)
  rw [gW_set (σ' := gU σ F i x.toNatClampNeg y) (by rw [gC, h1]; simp only [cellK, h3]; rw [gU_R]; simp only [gR, and_self, if_true]; rfl) (fun o' h1 h2 => by rw [gU_R]; exact gC_ne h1 (by rw [okA_o h]; exact h2))] at hP1
  exact k H1 locs1 ls hP1 hS1 hl
theorem G_zast (hC : gCx p s m args meth c cc nL own ret E) {F i : Nat} {x y : Int32} (h : okA 2 F i x = true) (hb : b01 y = true) (d : decode cc pc = .ok (.bastore, 1)) (hq : pc + 1 = q) (k : G p l e R s m args below meth c nL cells slots Q E w (gU σ F i x.toNatClampNeg y) q lv st) : G p l e R s m args below meth c nL cells slots Q E w σ pc lv (.int y :: .int x :: .ref (eB E + oA F i) :: st) := by
  subst hq
  intro H locs ls hP hS hl
  obtain ⟨⟨h1, h2⟩, h3, h4⟩ := okA_s h
  refine va_zast (f := fun k => σ F i k) (cA := eT E 2) hC.1 hC.2.1 hC.2.2.2.2.2.1.1 hP gD hS (oA F i) 2 (by rw [gW_at h2, gC, h1]; simp only [cellK, h3]) rfl (inb_in h4) d (fun H1 locs1 hP1 _ hS1 => ?_)
  rw [b01_nar hb] at hP1
  rw [gW_set (σ' := gU σ F i x.toNatClampNeg y) (by rw [gC, h1]; simp only [cellK, h3]; rw [gU_R]; simp only [gR, and_self, if_true]; rfl) (fun o' h1 h2 => by rw [gU_R]; exact gC_ne h1 (by rw [okA_o h]; exact h2))] at hP1
  exact k H1 locs1 ls hP1 hS1 hl
theorem G_cast (hC : gCx p s m args meth c cc nL own ret E) {F i : Nat} {x y : Int32} (h : okA 0 F i x = true) (hb : isC y = true) (d : decode cc pc = .ok (.castore, 1)) (hq : pc + 1 = q) (k : G p l e R s m args below meth c nL cells slots Q E w (gU σ F i x.toNatClampNeg y) q lv st) : G p l e R s m args below meth c nL cells slots Q E w σ pc lv (.int y :: .int x :: .ref (eB E + oA F i) :: st) := by
  subst hq
  intro H locs ls hP hS hl
  obtain ⟨⟨h1, h2⟩, h3, h4⟩ := okA_s h
  refine va_cast (f := fun k => σ F i k) (cA := eT E 0) hC.1 hC.2.1 hC.2.2.2.2.2.1.1 hP gD hS (oA F i) 0 (by rw [gW_at h2, gC, h1]; simp only [cellK, h3]) rfl (inb_in h4) d (fun H1 locs1 hP1 _ hS1 => ?_)
  rw [isC_nar hb] at hP1
  rw [gW_set (σ' := gU σ F i x.toNatClampNeg y) (by rw [gC, h1]; simp only [cellK, h3]; rw [gU_R]; simp only [gR, and_self, if_true]; rfl) (fun o' h1 h2 => by rw [gU_R]; exact gC_ne h1 (by rw [okA_o h]; exact h2))] at hP1
  exact k H1 locs1 ls hP1 hS1 hl
theorem G_aldArt (hC : gCx p s m args meth c cc nL own ret E) {x : Int32} (h : inb x 24 = true) (d : decode cc pc = .ok (.aaload, 1)) (hq : pc + 1 = q) (k : G p l e R s m args below meth c nL cells slots Q E w σ q lv (.ref (eB E + oArt x.toNatClampNeg) :: st)) : G p l e R s m args below meth c nL cells slots Q E w σ pc lv (.int x :: .ref (eB E + 4) :: st) := by
  subst hq
  intro H locs ls hP hS hl
  exact va_aldq (f := fun k => some (eB E + oArt k)) (cA := eT E 3) (C := RX0) hC.1 hC.2.1 hC.2.2.2.2.2.1.1 hP (4) 3 (by rw [gW_at (by decide)]; rfl) rfl (inb_in h) d (k H locs ls hP hS hl)
theorem G_aldVol (hC : gCx p s m args meth c cc nL own ret E) {x : Int32} (h : inb x 4 = true) (d : decode cc pc = .ok (.aaload, 1)) (hq : pc + 1 = q) (k : G p l e R s m args below meth c nL cells slots Q E w σ q lv (.ref (eB E + oVol x.toNatClampNeg) :: st)) : G p l e R s m args below meth c nL cells slots Q E w σ pc lv (.int x :: .ref (eB E + 5) :: st) := by
  subst hq
  intro H locs ls hP hS hl
  exact va_aldq (f := fun k => some (eB E + oVol k)) (cA := eT E 6) (C := RX5) hC.1 hC.2.1 hC.2.2.2.2.2.1.1 hP (5) 6 (by rw [gW_at (by decide)]; rfl) rfl (inb_in h) d (k H locs ls hP hS hl)
theorem G_aldCon (hC : gCx p s m args meth c cc nL own ret E) {x : Int32} (h : inb x 6 = true) (d : decode cc pc = .ok (.aaload, 1)) (hq : pc + 1 = q) (k : G p l e R s m args below meth c nL cells slots Q E w σ q lv (.ref (eB E + oCon x.toNatClampNeg) :: st)) : G p l e R s m args below meth c nL cells slots Q E w σ pc lv (.int x :: .ref (eB E + 6) :: st) := by
  subst hq
  intro H locs ls hP hS hl
  exact va_aldq (f := fun k => some (eB E + oCon k)) (cA := eT E 4) (C := RX1) hC.1 hC.2.1 hC.2.2.2.2.2.1.1 hP (6) 4 (by rw [gW_at (by decide)]; rfl) rfl (inb_in h) d (k H locs ls hP hS hl)
theorem G_aldRef (hC : gCx p s m args meth c cc nL own ret E) {i : Nat} (hi : i < 24) {x : Int32} (h : inb x 4 = true) (d : decode cc pc = .ok (.aaload, 1)) (hq : pc + 1 = q) (k : G p l e R s m args below meth c nL cells slots Q E w σ q lv (.ref (eB E + oRef (4 * i + x.toNatClampNeg)) :: st)) : G p l e R s m args below meth c nL cells slots Q E w σ pc lv (.int x :: .ref (eB E + oRa i) :: st) := by
  subst hq
  intro H locs ls hP hS hl
  exact va_aldq (f := fun k => some (eB E + oRef (4 * i + k))) (cA := eT E 5) (C := RX4) hC.1 hC.2.1 hC.2.2.2.2.2.1.1 hP (oRa i) 5 (by rw [gW_at (dec_ra i hi).2, gC, (dec_ra i hi).1]; rfl) rfl (inb_in h) d (k H locs ls hP hS hl)
theorem G_fate (hC : gCx p s m args meth c cc nL own ret E) {n : Nat} {nm ref : String} {idx : Nat} (hn : gFates[n]? = some nm) (hlink : Cond.fieldLink own idx RX2 nm gFd ∈ WALL) (d : decode cc pc = .ok (.getstatic idx, 3)) (hq : pc + 3 = q) (k : G p l e R s m args below meth c nL cells slots Q E w σ q lv (.ref (eF E n) :: st)) : G p l e R s m args below meth c nL cells slots Q E w σ pc lv st := by
  subst hq
  intro H locs ls hP hS hl
  exact va_gets hC.1 hC.2.1 (hC.2.2.2.2.2.1.2.2.2.2.2.2.1 n nm hn) hS hC.2.2.2.1 (hC.2.2.2.2.1 _ hlink) (fun _ h => h) d (k H locs ls hP hS hl)
end GR
end
section
/-! contracts over the store; entries, ends, calls, throws -/
def gRet (k : Nat) (E : gE) (v : Int32) : Option Value := match k with
  | 0 => none
  | 1 => some (.int v)
  | _ => some (.ref (eF E v.toNatClampNeg))
def gA (E : gE) : Nat → Prop := fun q => eB E ≤ q
def gP (E : gE) (w : Nat → Int64) (σ : gSt) (As : List Value) : Array Value → State → Prop := va_Pc As (fun U => va_P (eD E) vwCl (gW E w σ) U.heap ∧ gK E U)
def gQ (E : gE) (w : Nat → Int64) (k : Nat) (r : Int32 × gSt) : Array Value → State → Outcome → State → Prop := fun _ st o t => o = .returned (gRet k E r.1) ∧ va_P (eD E) vwCl (gW E w r.2) t.heap ∧ va_F (fun q => eB E ≤ q) st t
/-- a method that returns -/
def gM (l : Launch) (y : MethodName) (cc : ByteArray) (nL : Nat) (ret : Option FieldType) (rm : Room) (k : Nat) (E : gE) (w : Nat → Int64) (σ : gSt) (As : List Value) (r : Int32 × gSt) : Prop :=
  Met l y (Cond.code y cc nL ret :: WALL) rm (gP E w σ As) (gQ E w k r) 0 0 (fun q => eB E ≤ q)
theorem gP_blind {E : gE} {w : Nat → Int64} {σ : gSt} {As : List Value} : FrameBlind (gP E w σ As) := by
  intro a U g mk h
  obtain ⟨h1, h2, h3⟩ := h
  exact ⟨h1, h2, gK.same (U := U.calling g mk a) h3 rfl rfl⟩
theorem wall_good {y : MethodName} {cc : ByteArray} {nL : Nat} {ret : Option FieldType} (h : Cond.code y cc nL ret ∈ WALL) : GoodIn WALL (Cond.code y cc nL ret :: WALL) := by
  have k : ∀ w ∈ WALL, w ∈ WALL ∧ ((w.onTables && w.keeps) = true ∨ ∃ ty, w = .arrayClass ty) := fun w hw => ⟨hw, good_of_word (List.mem_filter.mp hw).2⟩
  intro w hw
  rcases List.mem_cons.mp hw with rfl | hw
  · exact k _ h
  · exact k _ hw
/-- exceptions: 1 illegal argument, 2 illegal state, 3 out of bounds -/
def gExN : Nat → String
  | 1 => gIAE
  | 2 => gISE
  | _ => gIOE
def gQX (E : gE) (w : Nat → Int64) (k : Nat) (r : Nat × Int32 × gSt) : Array Value → State → Outcome → State → Prop := fun _ st o t => r.1 = 0 ∧ o = .returned (gRet k E r.2.1) ∧ va_P (eD E) vwCl (gW E w r.2.2) t.heap ∧ va_F (fun q => eB E ≤ q) st t
def gXC (E : gE) (w : Nat → Int64) (r : Nat × Int32 × gSt) : String → State → State → Prop := fun En st t => ¬ r.1 = 0 ∧ En = gExN r.1 ∧ va_P (eD E) vwCl (gW E w r.2.2) t.heap ∧ va_F (fun q => eB E ≤ q) st t
/-- a method that returns or throws -/
def gMX (l : Launch) (y : MethodName) (cc : ByteArray) (nL : Nat) (ret : Option FieldType) (rm : Room) (k : Nat) (E : gE) (w : Nat → Int64) (σ : gSt) (As : List Value) (r : Nat × Int32 × gSt) : Prop :=
  vx_Met l y (Cond.code y cc nL ret :: WALL) rm (gP E w σ As) (gQX E w k r) (gXC E w r) rm.cells rm.slots (fun q => eB E ≤ q)
def bx (m : Option (Nat × Int32 × gSt)) (k : Int32 → gSt → Option (Nat × Int32 × gSt)) : Option (Nat × Int32 × gSt) := match m with
  | none => none
  | some r => if r.1 = 0 then k r.2.1 r.2.2 else some r
theorem bx_ok {m : Option (Nat × Int32 × gSt)} {k : Int32 → gSt → Option (Nat × Int32 × gSt)} {r : Nat × Int32 × gSt} (h : bx m k = some r) : ∃ z, m = some z ∧ (z.1 = 0 → k z.2.1 z.2.2 = some r) ∧ (¬ z.1 = 0 → z = r) := by
  cases m with
  | none => cases h
  | some z =>
    refine ⟨z, rfl, fun h0 => ?_, fun h0 => ?_⟩
    · have h1 : (if z.1 = 0 then k z.2.1 z.2.2 else some z) = some r := h
      rwa [if_pos h0] at h1
    · have h1 : (if z.1 = 0 then k z.2.1 z.2.2 else some z) = some r := h
      rw [if_neg h0] at h1
      exact Option.some.inj h1
section GK
variable {p : Program} {l : Launch} {e : Env} {R : Room} {s : State} {m : MethodId} {args : Array Value} {below : List Frame} {meth : Method} {c : Code} {nL cells slots : Nat} {Q : State → Prop} {E : gE} {w : Nat → Int64} {σ : gSt} {pc q : Nat} {lv lv' : List (Nat × Value)} {st st' : List Value} {cc : ByteArray} {own : String} {ret : Option FieldType}
theorem gM_of {y : MethodName} {rm : Room} {k : Nat} {As : List Value} {r : Int32 × gSt} (hy : plainName y.cls = true) (hlen : (lg_sl As).length ≤ nL)
    (body : ∀ (p : Program) (e : Env) (s : State) (m : MethodId) (args : Array Value) (below : List Frame) (meth : Method) (c : Code), gCx p s m args meth c cc nL y.cls ret E →
      G p l e rm s m args below meth c nL 0 0 (MQ below (gQ E w k r) args s 0 0 (fun q => eB E ≤ q)) E w σ 0 (lv_args 0 As) []) : gM l y cc nL ret rm k E w σ As r := by
  refine Met.ofW (cc := cc) (maxL := nL) (ret := ret) hy rfl ?_
  intro p e s m args below meth c s₁ B hml hv
  obtain ⟨rfl, hP, hK⟩ := hv
  have hts := atoms_spec (ws := Cond.code y cc nL ret :: WALL) B.pre
  have hC : gCx p s m As.toArray meth c cc nL y.cls ret E := ⟨B.exec, B.bytes, hml, findClass_of_methodNamed B.named, fun w hw => hts w (List.mem_cons_of_mem _ hw), hK, B.returns, B.notSynchronized⟩
  have h := body p e s m _ below meth c hC s.heap [] _ hP va_S.rf (lv_entry As hlen)
  rw [lg_entry_eq]
  exact h
theorem G_iret (hC : gCx p s m args meth c cc nL own ret E) {v : Int32} {ty : FieldType} {r : Int32 × gSt} (hr : some (v, σ) = some r) (ht : ret = some ty) (hn : narrow ty (.int v) = .int v) (d : decode cc pc = .ok (.ireturn, 1)) :
    G p l e R s m args below meth c nL cells slots (MQ below (gQ E w 1 r) args s cells slots (fun q => eB E ≤ q)) E w σ pc lv [.int v] := by
  intro H locs ls hP hS hl
  cases hr
  exact W.zret hC.1 hC.2.1 (hC.2.2.2.2.2.2.1.trans ht) hn (fun t ht hW => ⟨rfl, by rw [ht]; exact hP, hS.F ht⟩) hS.2.2 d hC.2.2.2.2.2.2.2
theorem G_vret (hC : gCx p s m args meth c cc nL own ret E) {v : Int32} {r : Int32 × gSt} (hr : some (v, σ) = some r) (ht : ret = none) (d : decode cc pc = .ok (.return_, 1)) :
    G p l e R s m args below meth c nL cells slots (MQ below (gQ E w 0 r) args s cells slots (fun q => eB E ≤ q)) E w σ pc lv [] := by
  intro H locs ls hP hS hl
  cases hr
  exact W.vret hC.1 hC.2.1 (hC.2.2.2.2.2.2.1.trans ht) (fun t ht hW => ⟨rfl, by rw [ht]; exact hP, hS.F ht⟩) hS.2.2 d hC.2.2.2.2.2.2.2
theorem G_aret (hC : gCx p s m args meth c cc nL own ret E) {v : Int32} {n : Nat} {nm : String} {r : Int32 × gSt} (hr : some (v, σ) = some r) (hv : v.toNatClampNeg = n) (ht : ret = some (.object nm)) (d : decode cc pc = .ok (.areturn, 1)) :
    G p l e R s m args below meth c nL cells slots (MQ below (gQ E w 2 r) args s cells slots (fun q => eB E ≤ q)) E w σ pc lv [.ref (eF E n)] := by
  intro H locs ls hP hS hl
  cases hr
  subst hv
  exact W.aret hC.1 hC.2.1 (hC.2.2.2.2.2.2.1.trans ht) (Or.inl ⟨_, rfl⟩) (Or.inr ⟨_, rfl⟩) (fun t ht hW => ⟨rfl, by rw [ht]; exact hP, hS.F ht⟩) hS.2.2 d hC.2.2.2.2.2.2.2
theorem G_run {H : Heap} {locs : List Loc} {ls : Array Slot} {a : Array Value} {k : Nat} {v : Int32} {σ1 : gSt} {st0 : List Value} (hr : va_Run p l e R s m args below meth c H locs cells slots 0 0 (F0 m pc ls st0) st (gQ E w k (v, σ1) a) (fun q => eB E ≤ q))
    (hS : va_S (fun q => eB E ≤ q) s.heap H locs) (hl : lv_has ls nL lv) (hst : (gRet k E v).toList ++ st = st') (kk : G p l e R s m args below meth c nL cells slots Q E w σ1 (pc + 3) lv st') : W p l e R s m args below meth c H locs cells slots Q (F0 m pc ls st0) := by
  subst hst
  intro T hT X
  obtain ⟨v', st₀, t, T', L, h0, X', hL, e1, e2, ⟨hv, hP1, hz, hk⟩, stp⟩ := hr T hT X
  cases hv
  rw [h0] at hz hk
  obtain ⟨t2, a1, b1⟩ := kk T'.heap (locs ++ L) ls (by rw [e1]; exact hP1)
    ⟨Nat.le_trans hS.1 (by rw [e1]; exact hz), fun q h1 h2 => by rw [e1, hk q (Nat.lt_of_lt_of_le h1 hS.1) h2]; exact hS.2.1 q h1 h2, fun q hq => by
      rcases List.mem_append.mp hq with h | h
      · exact hS.2.2 q h
      · exact hL q h⟩ hl T' rfl X'
  exact ⟨t2, stp t2 a1, b1⟩
/-- what a call's words are -/
def gcV (own : String) (idx : Nat) (C : String) (y : MethodName) (cc : ByteArray) (nL : Nat) (ret : Option FieldType) (n : Nat) : Prop :=
  Cond.code y cc nL ret ∈ WALL ∧ Cond.instanceMethod y ∈ WALL ∧ Cond.selects C y y ∈ WALL ∧ Cond.initialized y.cls ∈ WALL ∧ (y.cls ≠ "java/lang/invoke/MethodHandle" ∧ y.cls ≠ "java/lang/invoke/VarHandle" ∧ (parseMethodDescriptor y.desc).map (fun d => d.parameters.length) = some n)
def gcS (y : MethodName) (cc : ByteArray) (nL : Nat) (ret : Option FieldType) (n : Nat) : Prop :=
  Cond.code y cc nL ret ∈ WALL ∧ Cond.static y ∈ WALL ∧ Cond.initialized y.cls ∈ WALL ∧ (y.cls ≠ "java/lang/invoke/MethodHandle" ∧ y.cls ≠ "java/lang/invoke/VarHandle" ∧ (parseMethodDescriptor y.desc).map (fun d => d.parameters.length) = some n)
theorem gFix (hC : gCx p s m args meth c cc nL own ret E) : CallFix p m c cc nL s args WALL own := ⟨hC.1, hC.2.1, hC.2.2.1, hC.2.2.2.1, hC.2.2.2.2.1⟩
theorem gPre {H : Heap} {locs : List Loc} {a : Array Value} {As : List Value} (hK : gK E s) (hP : va_P (eD E) vwCl (gW E w σ) H) (hS : va_S (fun q => eB E ≤ q) s.heap H locs) (ha : a = As.toArray) : ∀ U : State, U.heap = H → s.WarmedH U.vm → gP E w σ As a U :=
  fun U hU hW => ⟨ha, by rw [hU]; exact hP, hK.warm hW hU hS⟩
theorem G_callV (hC : gCx p s m args meth c cc nL own ret E) {y : MethodName} {cc' : ByteArray} {nL' : Nat} {ret' : Option FieldType} {rm' : Room} {k : Nat} {As : List Value} {o idx n ci N : Nat} {C : String} {T : u_T} {fs : List Value} {σ1 : gSt} {v : Int32}
    (hM : gM l y cc' nL' ret' rm' k E w σ (.ref (eB E + o) :: As) (v, σ1)) (ho : o < 606) (hc : gC E w σ o = .inr (ci, fs)) (hcl : vwCl[ci]? = some (C, T, N)) (hyC : y.cls = C) (hw : gcV own idx C y cc' nL' ret' n) (hlink : Cond.methodLink own idx y ∈ WALL) (hn : As.length = n)
    (hr0 : rm'.cells = 0 ∧ rm'.slots = 0) (hR : rm'.frames + 1 ≤ R.frames ∧ 8 + (nL' + 11) + rm'.locals ≤ R.locals) (hsum : (st.map fun v => v.category).sum ≤ 8) (hcap : cells ≤ R.cells ∧ slots ≤ R.slots) (d : decode cc pc = .ok (.invokevirtual idx, 3)) (hq : pc + 3 = q) (hst : (gRet k E v).toList ++ st = st')
    (kk : G p l e R s m args below meth c nL cells slots Q E w σ1 q lv st') : G p l e R s m args below meth c nL cells slots Q E w σ pc lv (As.reverse ++ .ref (eB E + o) :: st) := by
  subst hq
  intro H locs ls hP hS hl
  have hts := hC.2.2.2.2.1
  have cw : CallW R s args own C idx y cc' nL' ret' (Cond.code y cc' nL' ret' :: WALL) rm' 0 0 n := ⟨callB_of n hts (wall_good hw.1) rfl hr0.1 hr0.2 (hts _ hw.2.2.2.1) (hts _ hlink) hw.2.2.2.2 hR, hts _ hw.2.1, hts _ hw.2.2.1⟩
  exact G_run (va_runV (gFix hC) hM cw ⟨gP_blind, va_recv hC.2.2.2.2.2.1.1 hP hcl (by rw [gW_at ho, hc]), gPre hC.2.2.2.2.2.1 hP hS rfl⟩ rfl hn hl.1 rfl (lv_room hsum) d hcap) hS hl hst kk
theorem G_callVN (hC : gCx p s m args meth c cc nL own ret E) {y : MethodName} {cc' : ByteArray} {nL' : Nat} {ret' : Option FieldType} {rm' : Room} {k : Nat} {As : List Value} {o idx n ci N : Nat} {C host : String} {T : u_T} {fs : List Value} {σ1 : gSt} {v : Int32}
    (hM : gM l y cc' nL' ret' rm' k E w σ (.ref (eB E + o) :: As) (v, σ1)) (ho : o < 606) (hc : gC E w σ o = .inr (ci, fs)) (hcl : vwCl[ci]? = some (C, T, N)) (hyC : y.cls = C) (hw : gcV own idx C y cc' nL' ret' n) (hlink : Cond.methodLinkNest own idx y host ∈ NWL) (hn : As.length = n)
    (hr0 : rm'.cells = 0 ∧ rm'.slots = 0) (hR : rm'.frames + 1 ≤ R.frames ∧ 8 + (nL' + 11) + rm'.locals ≤ R.locals) (hsum : (st.map fun v => v.category).sum ≤ 8) (hcap : cells ≤ R.cells ∧ slots ≤ R.slots) (d : decode cc pc = .ok (.invokevirtual idx, 3)) (hq : pc + 3 = q) (hst : (gRet k E v).toList ++ st = st')
    (kk : G p l e R s m args below meth c nL cells slots Q E w σ1 q lv st') : G p l e R s m args below meth c nL cells slots Q E w σ pc lv (As.reverse ++ .ref (eB E + o) :: st) := by
  subst hq
  intro H locs ls hP hS hl
  have hts := hC.2.2.2.2.1
  have cw := va_cnB (R := R) (s := s) (args := args) (own := own) (index := idx) (host := host) n hts (wall_good hw.1) rfl hr0.1 hr0.2 (hC.2.2.2.2.2.1.2.1 _ hlink) (hts _ hw.2.2.2.1) hw.2.2.2.2 hR
  exact G_run (va_runVN (gFix hC) hM ⟨cw, hts _ hw.2.1, hts _ hw.2.2.1⟩ ⟨gP_blind, va_recv hC.2.2.2.2.2.1.1 hP hcl (by rw [gW_at ho, hc]), gPre hC.2.2.2.2.2.1 hP hS rfl⟩ rfl hn hl.1 rfl (lv_room hsum) d hcap) hS hl hst kk
theorem G_callS (hC : gCx p s m args meth c cc nL own ret E) {y : MethodName} {cc' : ByteArray} {nL' : Nat} {ret' : Option FieldType} {rm' : Room} {k : Nat} {As : List Value} {idx n : Nat} {σ1 : gSt} {v : Int32}
    (hM : gM l y cc' nL' ret' rm' k E w σ As (v, σ1)) (hw : gcS y cc' nL' ret' n) (hlink : Cond.methodLink own idx y ∈ WALL) (hn : As.length = n)
    (hr0 : rm'.cells = 0 ∧ rm'.slots = 0) (hR : rm'.frames + 1 ≤ R.frames ∧ 8 + (nL' + 11) + rm'.locals ≤ R.locals) (hsum : (st.map fun v => v.category).sum ≤ 8) (hcap : cells ≤ R.cells ∧ slots ≤ R.slots) (d : decode cc pc = .ok (.invokestatic idx, 3)) (hq : pc + 3 = q) (hst : (gRet k E v).toList ++ st = st')
    (kk : G p l e R s m args below meth c nL cells slots Q E w σ1 q lv st') : G p l e R s m args below meth c nL cells slots Q E w σ pc lv (As.reverse ++ st) := by
  subst hq
  intro H locs ls hP hS hl
  have hts := hC.2.2.2.2.1
  have cw : CallB R s args own idx y cc' nL' ret' (Cond.code y cc' nL' ret' :: WALL) rm' 0 0 n ∧ (Cond.static y).before args s = true := ⟨callB_of n hts (wall_good hw.1) rfl hr0.1 hr0.2 (hts _ hw.2.2.1) (hts _ hlink) hw.2.2.2 hR, hts _ hw.2.1⟩
  exact G_run (va_runS (gFix hC) hM cw ⟨gP_blind, gPre hC.2.2.2.2.2.1 hP hS rfl⟩ rfl hn hl.1 rfl (lv_room hsum) d hcap) hS hl hst kk
theorem G_callSN (hC : gCx p s m args meth c cc nL own ret E) {y : MethodName} {cc' : ByteArray} {nL' : Nat} {ret' : Option FieldType} {rm' : Room} {k : Nat} {As : List Value} {idx n : Nat} {host : String} {σ1 : gSt} {v : Int32}
    (hM : gM l y cc' nL' ret' rm' k E w σ As (v, σ1)) (hw : gcS y cc' nL' ret' n) (hlink : Cond.methodLinkNest own idx y host ∈ NWL) (hn : As.length = n)
    (hr0 : rm'.cells = 0 ∧ rm'.slots = 0) (hR : rm'.frames + 1 ≤ R.frames ∧ 8 + (nL' + 11) + rm'.locals ≤ R.locals) (hsum : (st.map fun v => v.category).sum ≤ 8) (hcap : cells ≤ R.cells ∧ slots ≤ R.slots) (d : decode cc pc = .ok (.invokestatic idx, 3)) (hq : pc + 3 = q) (hst : (gRet k E v).toList ++ st = st')
    (kk : G p l e R s m args below meth c nL cells slots Q E w σ1 q lv st') : G p l e R s m args below meth c nL cells slots Q E w σ pc lv (As.reverse ++ st) := by
  subst hq
  intro H locs ls hP hS hl
  have hts := hC.2.2.2.2.1
  have cw := va_cnB (R := R) (s := s) (args := args) (own := own) (index := idx) (host := host) n hts (wall_good hw.1) rfl hr0.1 hr0.2 (hC.2.2.2.2.2.1.2.1 _ hlink) (hts _ hw.2.2.1) hw.2.2.2 hR
  exact G_run (va_runSN (gFix hC) hM ⟨cw, hts _ hw.2.1, trivial⟩ ⟨gP_blind, gPre hC.2.2.2.2.2.1 hP hS rfl⟩ rfl hn hl.1 rfl (lv_room hsum) d hcap) hS hl hst kk
theorem gMX_of {y : MethodName} {rm : Room} {k : Nat} {As : List Value} {r : Nat × Int32 × gSt} (hy : plainName y.cls = true) (hlen : (lg_sl As).length ≤ nL)
    (body : ∀ (p : Program) (e : Env) (s : State) (m : MethodId) (args : Array Value) (below : List Frame) (meth : Method) (c : Code), gCx p s m args meth c cc nL y.cls ret E → (∀ x ∈ c.exceptionTable.toList, False) →
      G p l e rm s m args below meth c nL 0 0 (vx_MQ below (gQX E w k r) (gXC E w r) args s rm.cells rm.slots (fun q => eB E ≤ q)) E w σ 0 (lv_args 0 As) []) : gMX l y cc nL ret rm k E w σ As r := by
  refine vx_ofW (cc := cc) (maxL := nL) (ret := ret) hy rfl ?_
  intro p e s m args below meth c s₁ B hml ht hv
  obtain ⟨rfl, hP, hK⟩ := hv
  have hts := atoms_spec (ws := Cond.code y cc nL ret :: WALL) B.pre
  have hC : gCx p s m As.toArray meth c cc nL y.cls ret E := ⟨B.exec, B.bytes, hml, findClass_of_methodNamed B.named, fun w hw => hts w (List.mem_cons_of_mem _ hw), hK, B.returns, B.notSynchronized⟩
  have h := body p e s m _ below meth c hC ht s.heap [] _ hP va_S.rf (lv_entry As hlen)
  rw [lg_entry_eq]
  exact h
theorem G_widen {k n : Nat} (h1 : cells ≤ k) (h2 : slots ≤ n) (kk : G p l e R s m args below meth c nL k n Q E w σ pc lv st) : G p l e R s m args below meth c nL cells slots Q E w σ pc lv st :=
  fun H locs ls hP hS hl => W.widen h1 h2 (kk H locs ls hP hS hl)
theorem G_iretX (hC : gCx p s m args meth c cc nL own ret E) {v : Int32} {mc ms : Nat} {ty : FieldType} {r : Nat × Int32 × gSt} (hr : some (0, v, σ) = some r) (ht : ret = some ty) (hn : narrow ty (.int v) = .int v) (hc : cells ≤ mc) (hs : slots ≤ ms) (d : decode cc pc = .ok (.ireturn, 1)) :
    G p l e R s m args below meth c nL cells slots (vx_MQ below (gQX E w 1 r) (gXC E w r) args s mc ms (fun q => eB E ≤ q)) E w σ pc lv [.int v] := by
  intro H locs ls hP hS hl
  cases hr
  exact W.widen hc hs (vx_ret (W.zret hC.1 hC.2.1 (hC.2.2.2.2.2.2.1.trans ht) hn (fun t ht hW => ⟨rfl, rfl, by rw [ht]; exact hP, hS.F ht⟩) hS.2.2 d hC.2.2.2.2.2.2.2))
theorem G_vretX (hC : gCx p s m args meth c cc nL own ret E) {v : Int32} {mc ms : Nat} {r : Nat × Int32 × gSt} (hr : some (0, v, σ) = some r) (ht : ret = none) (hc : cells ≤ mc) (hs : slots ≤ ms) (d : decode cc pc = .ok (.return_, 1)) :
    G p l e R s m args below meth c nL cells slots (vx_MQ below (gQX E w 0 r) (gXC E w r) args s mc ms (fun q => eB E ≤ q)) E w σ pc lv [] := by
  intro H locs ls hP hS hl
  cases hr
  exact W.widen hc hs (vx_ret (W.vret hC.1 hC.2.1 (hC.2.2.2.2.2.2.1.trans ht) (fun t ht hW => ⟨rfl, rfl, by rw [ht]; exact hP, hS.F ht⟩) hS.2.2 d hC.2.2.2.2.2.2.2))
theorem G_runX {H : Heap} {locs : List Loc} {ls : Array Slot} {a : Array Value} {k mc ms : Nat} {z : Nat × Int32 × gSt} {st0 : List Value} (hr : vx_Run p l e R s m args below meth c H locs cells slots mc ms (F0 m pc ls st0) st (gQX E w k z a) (gXC E w z) (fun q => eB E ≤ q))
    (hS : va_S (fun q => eB E ≤ q) s.heap H locs) (hl : lv_has ls nL lv) (hst : z.1 = 0 → (gRet k E z.2.1).toList ++ st = st') (kk : z.1 = 0 → G p l e R s m args below meth c nL (cells + mc) (slots + ms) Q E w z.2.2 (pc + 3) lv st')
    (kx : ¬ z.1 = 0 → ∀ (H1 : Heap) (locs1 : List Loc) (q9 : Addr) (ce : Cell), va_P (eD E) vwCl (gW E w z.2.2) H1 → va_S (fun q => eB E ≤ q) s.heap H1 locs1 → H1[q9]? = some ce → ce.vm = .none → s.vm.findClass (gExN z.1) = some ce.cls → vx_W p l e R s m args below meth c H1 locs1 (cells + mc) (slots + ms) Q (F0 m pc ls st) q9) : W p l e R s m args below meth c H locs cells slots Q (F0 m pc ls st0) := by
  intro T hT X
  have keep : ∀ (st₀ t T' : State) (L : List Loc), st₀.heap = H → T'.heap = t.heap → (∀ q ∈ L, eB E ≤ q.base) → va_F (fun q => eB E ≤ q) st₀ t → va_S (fun q => eB E ≤ q) s.heap T'.heap (locs ++ L) := fun st₀ t T' L h0 e1 hL hF => (vx_keep (free := fun q => eB E ≤ q) h0 e1 hS (fun _ _ h => h) (fun _ h => h) hL hF).2.2
  rcases hr T hT X with ⟨v', st₀, t, T', L, h0, X', hL, e1, e2, ⟨hz, hv, hP1, hF⟩, stp⟩ | ⟨q9, st₀, t, T', L, En, ce, h0, X', hL, e1, e2, ⟨hz, rfl, hP1, hF⟩, hce, hcv, hcl, stp⟩
  · cases hv
    obtain ⟨t2, a1, b1⟩ := kk hz T'.heap (locs ++ L) ls (by rw [e1]; exact hP1) (keep st₀ t T' L h0 e1 hL hF) hl T' rfl X'
    have hst := hst hz
    subst hst
    exact ⟨t2, stp t2 a1, b1⟩
  · obtain ⟨t2, a1, b1⟩ := kx hz T'.heap (locs ++ L) q9 ce (by rw [e1]; exact hP1) (keep st₀ t T' L h0 e1 hL hF) (by rw [e1]; exact hce) hcv hcl T' rfl X'
    exact ⟨t2, stp.trans a1, b1⟩
/-- a call that may throw, of a method that doesn't catch -/
theorem G_callVX (hC : gCx p s m args meth c cc nL own ret E) (hX : ∀ x ∈ c.exceptionTable.toList, False) {y : MethodName} {cc' : ByteArray} {nL' : Nat} {ret' : Option FieldType} {rm' : Room} {k k0 : Nat} {As : List Value} {o idx n ci N MC MS : Nat} {C : String} {T : u_T} {fs : List Value} {z r : Nat × Int32 × gSt}
    (hM : gMX l y cc' nL' ret' rm' k E w σ (.ref (eB E + o) :: As) z) (ho : o < 606) (hc : gC E w σ o = .inr (ci, fs)) (hcl : vwCl[ci]? = some (C, T, N)) (hyC : y.cls = C) (hw : gcV own idx C y cc' nL' ret' n) (hlink : Cond.methodLink own idx y ∈ WALL) (hn : As.length = n)
    (hR : rm'.frames + 1 ≤ R.frames ∧ 8 + (nL' + 11) + rm'.locals ≤ R.locals) (hsum : (st.map fun v => v.category).sum ≤ 8) (hcap : cells + rm'.cells ≤ R.cells ∧ slots + rm'.slots ≤ R.slots) (hM2 : cells + rm'.cells ≤ MC ∧ slots + rm'.slots ≤ MS) (d : decode cc pc = .ok (.invokevirtual idx, 3)) (hq : pc + 3 = q) (hst : (gRet k E z.2.1).toList ++ st = st')
    (hz : ¬ z.1 = 0 → z = r)
    (kk : z.1 = 0 → G p l e R s m args below meth c nL (cells + rm'.cells) (slots + rm'.slots) (vx_MQ below (gQX E w k0 r) (gXC E w r) args s MC MS (fun q => eB E ≤ q)) E w z.2.2 q lv st') : G p l e R s m args below meth c nL cells slots (vx_MQ below (gQX E w k0 r) (gXC E w r) args s MC MS (fun q => eB E ≤ q)) E w σ pc lv (As.reverse ++ .ref (eB E + o) :: st) := by
  subst hq
  intro H locs ls hP hS hl
  have hts := hC.2.2.2.2.1
  have cw : CallW R s args own C idx y cc' nL' ret' (Cond.code y cc' nL' ret' :: WALL) rm' rm'.cells rm'.slots n := ⟨callB_of n hts (wall_good hw.1) rfl rfl rfl (hts _ hw.2.2.2.1) (hts _ hlink) hw.2.2.2.2 hR, hts _ hw.2.1, hts _ hw.2.2.1⟩
  refine G_runX (vx_runV (gFix hC) hM cw ⟨gP_blind, va_recv hC.2.2.2.2.2.1.1 hP hcl (by rw [gW_at ho, hc]), gPre hC.2.2.2.2.2.1 hP hS rfl⟩ rfl hn hl.1 rfl (lv_room hsum) d hcap) hS hl (fun _ => hst) kk (fun h0 H1 locs1 q9 ce hP1 hS1 hce hcv hcl => ?_)
  have e := hz h0
  subst e
  exact vx_out (fun x hx => (hX x hx).elim) hC.2.2.2.2.2.2.2 hce hcv hcl (fun t ht _ => ⟨h0, rfl, by rw [ht]; exact hP1, hS1.F ht⟩) hS1.2.2 hM2.1 hM2.2
theorem G_callSX (hC : gCx p s m args meth c cc nL own ret E) (hX : ∀ x ∈ c.exceptionTable.toList, False) {y : MethodName} {cc' : ByteArray} {nL' : Nat} {ret' : Option FieldType} {rm' : Room} {k k0 : Nat} {As : List Value} {idx n MC MS : Nat} {z r : Nat × Int32 × gSt}
    (hM : gMX l y cc' nL' ret' rm' k E w σ As z) (hw : gcS y cc' nL' ret' n) (hlink : Cond.methodLink own idx y ∈ WALL) (hn : As.length = n)
    (hR : rm'.frames + 1 ≤ R.frames ∧ 8 + (nL' + 11) + rm'.locals ≤ R.locals) (hsum : (st.map fun v => v.category).sum ≤ 8) (hcap : cells + rm'.cells ≤ R.cells ∧ slots + rm'.slots ≤ R.slots) (hM2 : cells + rm'.cells ≤ MC ∧ slots + rm'.slots ≤ MS) (d : decode cc pc = .ok (.invokestatic idx, 3)) (hq : pc + 3 = q) (hst : (gRet k E z.2.1).toList ++ st = st')
    (hz : ¬ z.1 = 0 → z = r)
    (kk : z.1 = 0 → G p l e R s m args below meth c nL (cells + rm'.cells) (slots + rm'.slots) (vx_MQ below (gQX E w k0 r) (gXC E w r) args s MC MS (fun q => eB E ≤ q)) E w z.2.2 q lv st') : G p l e R s m args below meth c nL cells slots (vx_MQ below (gQX E w k0 r) (gXC E w r) args s MC MS (fun q => eB E ≤ q)) E w σ pc lv (As.reverse ++ st) := by
  subst hq
  intro H locs ls hP hS hl
  have hts := hC.2.2.2.2.1
  have cw : CallB R s args own idx y cc' nL' ret' (Cond.code y cc' nL' ret' :: WALL) rm' rm'.cells rm'.slots n ∧ (Cond.static y).before args s = true := ⟨callB_of n hts (wall_good hw.1) rfl rfl rfl (hts _ hw.2.2.1) (hts _ hlink) hw.2.2.2 hR, hts _ hw.2.1⟩
  refine G_runX (vx_runS (gFix hC) hM cw ⟨gP_blind, gPre hC.2.2.2.2.2.1 hP hS rfl⟩ rfl hn hl.1 rfl (lv_room hsum) d hcap) hS hl (fun _ => hst) kk (fun h0 H1 locs1 q9 ce hP1 hS1 hce hcv hcl => ?_)
  have e := hz h0
  subst e
  exact vx_out (fun x hx => (hX x hx).elim) hC.2.2.2.2.2.2.2 hce hcv hcl (fun t ht _ => ⟨h0, rfl, by rw [ht]; exact hP1, hS1.F ht⟩) hS1.2.2 hM2.1 hM2.2
/-- throw new E("text"), in RX6 -/
theorem G_throw (hC : gCx p s m args meth c cc nL RX6 ret E) (hX : ∀ x ∈ c.exceptionTable.toList, False) (hflag : l.stackTraces = false) {ik is ic k0 n MC MS : Nat} {text : String} {r : Nat × Int32 × gSt}
    (hr : some (n, 0, σ) = some r) (hn : ¬ n = 0) (hfit : Bundle.fit (gExN n) = true) (hlink : Cond.classLink RX6 ik (gExN n) ∈ WALL) (hini : Cond.initialized (gExN n) ∈ WALL) (htx : (is, text) ∈ gTxt)
    (hat : ∀ w ∈ vx_atS RX6 ic (gExN n) gUp, w ∈ WALL ∨ w ∈ XWL) (hot : ∀ w ∈ vx_atS RX6 ic (gExN n) gUp, vx_ot w = true)
    (d0 : decode cc pc = .ok (.new ik, 3)) (d3 : decode cc (pc + 3) = .ok (.dup, 1)) (d4 : decode cc (pc + 4) = .ok (.ldc is, 2)) (d6 : decode cc (pc + 6) = .ok (.invokespecial ic, 3)) (d9 : decode cc (pc + 9) = .ok (.athrow, 1))
    (hf : 5 < R.frames) (hloc : (st.map fun v => v.category).sum + 82 ≤ R.locals) (hcap : cells + 1 ≤ R.cells ∧ slots + 6 ≤ R.slots) (hM2 : cells + 1 ≤ MC ∧ slots + 6 ≤ MS) :
    G p l e R s m args below meth c nL cells slots (vx_MQ below (gQX E w k0 r) (gXC E w r) args s MC MS (fun q => eB E ≤ q)) E w σ pc lv st := by
  intro H locs ls hP hS hl
  cases hr
  have hts := hC.2.2.2.2.1
  have hK := hC.2.2.2.2.2.1
  have hg : ∀ w ∈ Cond.classLink RX6 ik (gExN n) :: Cond.initialized (gExN n) :: vx_atS RX6 ic (gExN n) gUp, vx_ot w = true := by
    intro w hw
    rcases List.mem_cons.mp hw with rfl | hw
    · rfl
    · rcases List.mem_cons.mp hw with rfl | hw
      · rfl
      · exact hot w hw
  refine vx_throwS hC.1 hC.2.1 hflag hC.2.2.2.1 hfit (by decide) (hts _ hlink) (hts _ hini) (hK.2.2.2.1 _ htx) (fun w hw => ?_) hg hK.2.2.2.2.1 hK.2.2.2.2.2.1 hS (hl.1.trans hC.2.2.1.symm) d0 d3 d4 d6 d9 (fun x hx => (hX x hx).elim) (by exact hf) (by exact hloc) hcap.1 hcap.2 hC.2.2.2.2.2.2.2 (fun t hA h1 h2 => ⟨hn, rfl, hP.kept (fun k q hk => h2 q.1 ((hP k q hk).lt)), Nat.le_trans hS.1 h1, fun q h3 h4 => ?_⟩) hS.2.2 hM2.1 hM2.2
  · rcases hat w hw with h | h
    · exact hts _ h
    · have h5 := XWL_ok w h
      simp only [Bool.and_eq_true] at h5
      exact va_Nw.use h5.1 (hK.2.2.1 w h)
  · rw [h2 q (Nat.lt_of_lt_of_le h3 hS.1)]
    exact hS.2.1 q h3 h4
/-- Math.max -/
theorem G_max (hC : gCx p s m args meth c cc nL own ret E) {idx : Nat} {x y v : Int32} (hlink : Cond.methodLink own idx Lib.Math.max.name ∈ WALL) (hstat : Cond.static Lib.Math.max.name ∈ WALL) (hini : Cond.initialized "java/lang/Math" ∈ WALL) (hcode : Cond.code Lib.Math.max.name Lib.Math.max.code 2 (some .int) ∈ WALL)
    (hf : 1 ≤ R.frames) (hloc : (st.map fun v => v.category).sum + 13 ≤ R.locals) (hcap : cells ≤ R.cells ∧ slots ≤ R.slots) (hv : (if x < y then y else x) = v) (d : decode cc pc = .ok (.invokestatic idx, 3)) (hq : pc + 3 = q) (kk : G p l e R s m args below meth c nL cells slots Q E w σ q lv (.int v :: st)) : G p l e R s m args below meth c nL cells slots Q E w σ pc lv (.int y :: .int x :: st) := by
  subst hq
  subst hv
  intro H locs ls hP hS hl
  have hts := hC.2.2.2.2.1
  exact va_mmax hC.1 hC.2.1 (hC.2.2.1.trans hl.1.symm) hC.2.2.2.1 (hts _ hlink) (hts _ hstat) (hts _ hini) (hts _ hcode) hf hloc hcap.1 hcap.2 d (kk H locs ls hP hS hl)
/-- System.arraycopy of an int-like array -/
def okCp (t F i F' i' : Nat) (sp dp n : Int32) (f : Nat → Int32) : Bool := isArr F && Nat.blt F 206 && Nat.beq (tA F) t && Nat.blt i (nA F) && isArr F' && Nat.blt F' 206 && Nat.beq (tA F') t && Nat.blt i' (nA F') && decide (0 ≤ sp) && decide (0 ≤ dp) && decide (0 ≤ n) && Nat.ble (sp.toNatClampNeg + n.toNatClampNeg) (lA F) && Nat.ble (dp.toNatClampNeg + n.toNatClampNeg) (lA F') && (Nat.beq t 1 || (List.range n.toNatClampNeg).all (fun k => isC (f (sp.toNatClampNeg + k))))
theorem G_copy (hC : gCx p s m args meth c cc nL own ret E) {F i F' i' idx t : Nat} {sp dp n : Int32} (ht : t = 0 ∨ t = 1) (h : okCp t F i F' i' sp dp n (fun k => σ F i k) = true) (hlink : Cond.methodLink own idx arraycopyName ∈ WALL) (hnat : Cond.native arraycopyName ∈ WALL) (hstat : Cond.static arraycopyName ∈ WALL) (hini : Cond.initialized "java/lang/System" ∈ WALL)
    (hf : 1 ≤ R.frames) (hloc : (st.map fun v => v.category).sum + (nativeFrameWords "java/lang/System" "arraycopy" 5 + 11) ≤ R.locals) (d : decode cc pc = .ok (.invokestatic idx, 3)) (hq : pc + 3 = q)
    (kk : G p l e R s m args below meth c nL cells slots Q E w (gR σ F' i' (va_cpy (fun k => σ F i k) (fun k => σ F' i' k) sp.toNatClampNeg dp.toNatClampNeg n.toNatClampNeg)) q lv st) : G p l e R s m args below meth c nL cells slots Q E w σ pc lv (.int n :: .int dp :: .ref (eB E + oA F' i') :: .int sp :: .ref (eB E + oA F i) :: st) := by
  subst hq
  intro H locs ls hP hS hl
  have hts := hC.2.2.2.2.1
  simp only [okCp, Bool.and_eq_true, decide_eq_true_eq] at h
  obtain ⟨⟨⟨⟨⟨⟨⟨⟨⟨⟨⟨⟨⟨a1, a2⟩, a3⟩, a4⟩, b1⟩, b2⟩, b3⟩, b4⟩, c1⟩, c2⟩, c3⟩, c4⟩, c5⟩, c6⟩ := h
  obtain ⟨e1, e2⟩ := dec_arr F (Nat.le_of_ble_eq_true a2) i (Nat.le_of_ble_eq_true a4) a1
  obtain ⟨f1, f2⟩ := dec_arr F' (Nat.le_of_ble_eq_true b2) i' (Nat.le_of_ble_eq_true b4) b1
  have ht1 := Nat.eq_of_beq_eq_true a3
  have ht2 := Nat.eq_of_beq_eq_true b3
  have hty : (gTys E)[t]? = some (eT E t, if t = 0 then .char else .int) := by rcases ht with rfl | rfl <;> rfl
  refine va_copyi (f := fun k => σ F i k) (g := fun k => σ F' i' k) (c0 := eT E t) (c1 := eT E t) (ty := if t = 0 then .char else .int) hC.1 hC.2.1 (hC.2.2.1.trans hl.1.symm) hC.2.2.2.1 (hts _ hlink) (hts _ hnat) (hts _ hstat) (hts _ hini) hC.2.2.2.2.2.1.1 hP gD hS (oA F i) (oA F' i') t t (by rw [gW_at e2, gC, e1]; simp only [cellK, ht1]) (by rw [gW_at f2, gC, f1]; simp only [cellK, ht2]) hty hty (by rcases ht with rfl | rfl <;> rfl)
    (Int32.not_lt.mpr c1) (Int32.not_lt.mpr c2) (Int32.not_lt.mpr c3) (Nat.le_of_ble_eq_true c4) (Nat.le_of_ble_eq_true c5) (fun k hk => ?_) hf hloc d (fun H1 locs1 hP1 _ hS1 => ?_)
  · rcases ht with rfl | rfl
    · simp only [Bool.or_eq_true, List.all_eq_true, List.mem_range] at c6
      rcases c6 with c6 | c6
      · cases c6
      · exact isC_fits (c6 k hk)
    · rfl
  · rw [gW_set (σ' := gR σ F' i' (va_cpy (fun k => σ F i k) (fun k => σ F' i' k) sp.toNatClampNeg dp.toNatClampNeg n.toNatClampNeg)) (by rw [gC, f1]; simp only [cellK, ht2]; simp only [gR, and_self, if_true]) (fun o' h1 h2 => gC_ne h1 (by simp only [oOf, b1, cond_true]; exact h2))] at hP1
    exact kk H1 locs1 ls hP1 hS1 hl
end GK
end
