section
-- ===== PART A: goes FIRST, ahead of the names: the tables' words, and 'selects' of the private methods out of them =====
/-- a private method of a class that the tables say can be made, by its rows of tables_1 -/
def lw_okq (q : MethodName × Nat) : Prop := (q.1.cls ≠ "java/lang/invoke/MethodHandle" ∧ q.1.cls ≠ "java/lang/invoke/VarHandle") ∧ Cond.instantiable q.1.cls q.2 ∈ tables_1 ∧ Cond.privateMethod q.1 ∈ tables_1 ∧ Cond.instanceMethod q.1 ∈ tables_1
theorem lw_p0 : lw_okq (⟨"TextEngine$Reader", "readHead", "()Z"⟩, 14) := ⟨⟨by decide +kernel, by decide +kernel⟩, List.mem_of_getElem? (i := 45) (by decide +kernel), List.mem_of_getElem? (i := 380) (by decide +kernel), List.mem_of_getElem? (i := 381) (by decide +kernel)⟩
theorem lw_p1 : lw_okq (⟨"TextEngine$Reader", "readNumber", "(I)J"⟩, 14) := ⟨⟨by decide +kernel, by decide +kernel⟩, List.mem_of_getElem? (i := 45) (by decide +kernel), List.mem_of_getElem? (i := 384) (by decide +kernel), List.mem_of_getElem? (i := 385) (by decide +kernel)⟩
theorem lw_p2 : lw_okq (⟨"TextEngine$Reader", "fail", "(II)Z"⟩, 14) := ⟨⟨by decide +kernel, by decide +kernel⟩, List.mem_of_getElem? (i := 45) (by decide +kernel), List.mem_of_getElem? (i := 388) (by decide +kernel), List.mem_of_getElem? (i := 389) (by decide +kernel)⟩
theorem lw_p3 : lw_okq (⟨"TextEngine$Reader", "readSmall", "(III)I"⟩, 14) := ⟨⟨by decide +kernel, by decide +kernel⟩, List.mem_of_getElem? (i := 45) (by decide +kernel), List.mem_of_getElem? (i := 403) (by decide +kernel), List.mem_of_getElem? (i := 404) (by decide +kernel)⟩
theorem lw_p4 : lw_okq (⟨"TextEngine$Reader", "readPairs", "()Z"⟩, 14) := ⟨⟨by decide +kernel, by decide +kernel⟩, List.mem_of_getElem? (i := 45) (by decide +kernel), List.mem_of_getElem? (i := 408) (by decide +kernel), List.mem_of_getElem? (i := 409) (by decide +kernel)⟩
theorem lw_p5 : lw_okq (⟨"TextEngine$Reader", "readName", "([II)Z"⟩, 14) := ⟨⟨by decide +kernel, by decide +kernel⟩, List.mem_of_getElem? (i := 45) (by decide +kernel), List.mem_of_getElem? (i := 412) (by decide +kernel), List.mem_of_getElem? (i := 413) (by decide +kernel)⟩
theorem lw_p6 : lw_okq (⟨"TextEngine$Reader", "readString", "(I)Z"⟩, 14) := ⟨⟨by decide +kernel, by decide +kernel⟩, List.mem_of_getElem? (i := 45) (by decide +kernel), List.mem_of_getElem? (i := 416) (by decide +kernel), List.mem_of_getElem? (i := 417) (by decide +kernel)⟩
theorem lw_p7 : lw_okq (⟨"TextEngine$Reader", "readValue", "(II)Z"⟩, 14) := ⟨⟨by decide +kernel, by decide +kernel⟩, List.mem_of_getElem? (i := 45) (by decide +kernel), List.mem_of_getElem? (i := 424) (by decide +kernel), List.mem_of_getElem? (i := 425) (by decide +kernel)⟩
theorem lw_p8 : lw_okq (⟨"TextEngine$Reader", "readInfos", "()V"⟩, 14) := ⟨⟨by decide +kernel, by decide +kernel⟩, List.mem_of_getElem? (i := 45) (by decide +kernel), List.mem_of_getElem? (i := 428) (by decide +kernel), List.mem_of_getElem? (i := 429) (by decide +kernel)⟩
theorem lw_p9 : lw_okq (⟨"TextEngine$Reader", "readSides", "(I)Z"⟩, 14) := ⟨⟨by decide +kernel, by decide +kernel⟩, List.mem_of_getElem? (i := 45) (by decide +kernel), List.mem_of_getElem? (i := 432) (by decide +kernel), List.mem_of_getElem? (i := 433) (by decide +kernel)⟩
theorem lw_p10 : lw_okq (⟨"TextEngine$Maker", "findKeys", "()Z"⟩, 3) := ⟨⟨by decide +kernel, by decide +kernel⟩, List.mem_of_getElem? (i := 105) (by decide +kernel), List.mem_of_getElem? (i := 440) (by decide +kernel), List.mem_of_getElem? (i := 441) (by decide +kernel)⟩
theorem lw_p11 : lw_okq (⟨"TextEngine$Maker", "findKey", "(ILjava/lang/String;I)Z"⟩, 3) := ⟨⟨by decide +kernel, by decide +kernel⟩, List.mem_of_getElem? (i := 105) (by decide +kernel), List.mem_of_getElem? (i := 445) (by decide +kernel), List.mem_of_getElem? (i := 446) (by decide +kernel)⟩
theorem lw_p12 : lw_okq (⟨"TextEngine$Maker", "isArrayOf", "(II)Z"⟩, 3) := ⟨⟨by decide +kernel, by decide +kernel⟩, List.mem_of_getElem? (i := 105) (by decide +kernel), List.mem_of_getElem? (i := 514) (by decide +kernel), List.mem_of_getElem? (i := 515) (by decide +kernel)⟩
theorem lw_p13 : lw_okq (⟨"TextEngine$Maker", "isArrayOfNumberArrays", "(I)Z"⟩, 3) := ⟨⟨by decide +kernel, by decide +kernel⟩, List.mem_of_getElem? (i := 105) (by decide +kernel), List.mem_of_getElem? (i := 520) (by decide +kernel), List.mem_of_getElem? (i := 521) (by decide +kernel)⟩
theorem lw_p14 : lw_okq (⟨"TextEngine$Maker", "takeNumbers", "(LTextEngine$Model;)Z"⟩, 3) := ⟨⟨by decide +kernel, by decide +kernel⟩, List.mem_of_getElem? (i := 105) (by decide +kernel), List.mem_of_getElem? (i := 526) (by decide +kernel), List.mem_of_getElem? (i := 527) (by decide +kernel)⟩
theorem lw_p15 : lw_okq (⟨"TextEngine$Maker", "takeNumber", "(LTextEngine$Model;III)Z"⟩, 3) := ⟨⟨by decide +kernel, by decide +kernel⟩, List.mem_of_getElem? (i := 105) (by decide +kernel), List.mem_of_getElem? (i := 530) (by decide +kernel), List.mem_of_getElem? (i := 531) (by decide +kernel)⟩
def lw_privs_1 : List (MethodName × Nat) := [(⟨"TextEngine$Reader", "readHead", "()Z"⟩, 14), (⟨"TextEngine$Reader", "readNumber", "(I)J"⟩, 14), (⟨"TextEngine$Reader", "fail", "(II)Z"⟩, 14), (⟨"TextEngine$Reader", "readSmall", "(III)I"⟩, 14), (⟨"TextEngine$Reader", "readPairs", "()Z"⟩, 14), (⟨"TextEngine$Reader", "readName", "([II)Z"⟩, 14), (⟨"TextEngine$Reader", "readString", "(I)Z"⟩, 14), (⟨"TextEngine$Reader", "readValue", "(II)Z"⟩, 14), (⟨"TextEngine$Reader", "readInfos", "()V"⟩, 14), (⟨"TextEngine$Reader", "readSides", "(I)Z"⟩, 14), (⟨"TextEngine$Maker", "findKeys", "()Z"⟩, 3), (⟨"TextEngine$Maker", "findKey", "(ILjava/lang/String;I)Z"⟩, 3), (⟨"TextEngine$Maker", "isArrayOf", "(II)Z"⟩, 3), (⟨"TextEngine$Maker", "isArrayOfNumberArrays", "(I)Z"⟩, 3), (⟨"TextEngine$Maker", "takeNumbers", "(LTextEngine$Model;)Z"⟩, 3), (⟨"TextEngine$Maker", "takeNumber", "(LTextEngine$Model;III)Z"⟩, 3)]
theorem lw_r1 : ∀ q ∈ lw_privs_1, lw_okq q := List.forall_mem_cons.mpr ⟨lw_p0, List.forall_mem_cons.mpr ⟨lw_p1, List.forall_mem_cons.mpr ⟨lw_p2, List.forall_mem_cons.mpr ⟨lw_p3, List.forall_mem_cons.mpr ⟨lw_p4, List.forall_mem_cons.mpr ⟨lw_p5, List.forall_mem_cons.mpr ⟨lw_p6, List.forall_mem_cons.mpr ⟨lw_p7, List.forall_mem_cons.mpr ⟨lw_p8, List.forall_mem_cons.mpr ⟨lw_p9, List.forall_mem_cons.mpr ⟨lw_p10, List.forall_mem_cons.mpr ⟨lw_p11, List.forall_mem_cons.mpr ⟨lw_p12, List.forall_mem_cons.mpr ⟨lw_p13, List.forall_mem_cons.mpr ⟨lw_p14, List.forall_mem_cons.mpr ⟨lw_p15, fun _ h => absurd h List.not_mem_nil⟩⟩⟩⟩⟩⟩⟩⟩⟩⟩⟩⟩⟩⟩⟩⟩
theorem lw_p16 : lw_okq (⟨"TextEngine$Maker", "takeHeads", "(LTextEngine$Model;)Z"⟩, 3) := ⟨⟨by decide +kernel, by decide +kernel⟩, List.mem_of_getElem? (i := 105) (by decide +kernel), List.mem_of_getElem? (i := 535) (by decide +kernel), List.mem_of_getElem? (i := 536) (by decide +kernel)⟩
theorem lw_p17 : lw_okq (⟨"TextEngine$Maker", "takeAlign", "(LTextEngine$Model;)Z"⟩, 3) := ⟨⟨by decide +kernel, by decide +kernel⟩, List.mem_of_getElem? (i := 105) (by decide +kernel), List.mem_of_getElem? (i := 539) (by decide +kernel), List.mem_of_getElem? (i := 540) (by decide +kernel)⟩
theorem lw_p18 : lw_okq (⟨"TextEngine$Maker", "takeReals", "(LTextEngine$Model;)Z"⟩, 3) := ⟨⟨by decide +kernel, by decide +kernel⟩, List.mem_of_getElem? (i := 105) (by decide +kernel), List.mem_of_getElem? (i := 543) (by decide +kernel), List.mem_of_getElem? (i := 544) (by decide +kernel)⟩
theorem lw_p19 : lw_okq (⟨"TextEngine$Maker", "takeWords", "(LTextEngine$Model;)Z"⟩, 3) := ⟨⟨by decide +kernel, by decide +kernel⟩, List.mem_of_getElem? (i := 105) (by decide +kernel), List.mem_of_getElem? (i := 557) (by decide +kernel), List.mem_of_getElem? (i := 558) (by decide +kernel)⟩
theorem lw_p20 : lw_okq (⟨"TextEngine$Maker", "takeTokens", "(LTextEngine$Model;)Z"⟩, 3) := ⟨⟨by decide +kernel, by decide +kernel⟩, List.mem_of_getElem? (i := 105) (by decide +kernel), List.mem_of_getElem? (i := 561) (by decide +kernel), List.mem_of_getElem? (i := 562) (by decide +kernel)⟩
theorem lw_p21 : lw_okq (⟨"TextEngine$Maker", "takeMerges", "(LTextEngine$Model;)Z"⟩, 3) := ⟨⟨by decide +kernel, by decide +kernel⟩, List.mem_of_getElem? (i := 105) (by decide +kernel), List.mem_of_getElem? (i := 576) (by decide +kernel), List.mem_of_getElem? (i := 577) (by decide +kernel)⟩
theorem lw_p22 : lw_okq (⟨"TextEngine$Words", "join", "(II)I"⟩, 6) := ⟨⟨by decide +kernel, by decide +kernel⟩, List.mem_of_getElem? (i := 219) (by decide +kernel), List.mem_of_getElem? (i := 584) (by decide +kernel), List.mem_of_getElem? (i := 585) (by decide +kernel)⟩
theorem lw_p23 : lw_okq (⟨"TextEngine$Words", "lengthOf", "(I)I"⟩, 6) := ⟨⟨by decide +kernel, by decide +kernel⟩, List.mem_of_getElem? (i := 219) (by decide +kernel), List.mem_of_getElem? (i := 588) (by decide +kernel), List.mem_of_getElem? (i := 589) (by decide +kernel)⟩
theorem lw_p24 : lw_okq (⟨"TextEngine$Words", "octetsOf", "(I)J"⟩, 6) := ⟨⟨by decide +kernel, by decide +kernel⟩, List.mem_of_getElem? (i := 219) (by decide +kernel), List.mem_of_getElem? (i := 592) (by decide +kernel), List.mem_of_getElem? (i := 593) (by decide +kernel)⟩
theorem lw_p25 : lw_okq (⟨"TextEngine$Maker", "takeShapes", "(LTextEngine$Model;)Z"⟩, 3) := ⟨⟨by decide +kernel, by decide +kernel⟩, List.mem_of_getElem? (i := 105) (by decide +kernel), List.mem_of_getElem? (i := 597) (by decide +kernel), List.mem_of_getElem? (i := 598) (by decide +kernel)⟩
theorem lw_p26 : lw_okq (⟨"TextEngine$Maker", "dataBegin", "(I)I"⟩, 3) := ⟨⟨by decide +kernel, by decide +kernel⟩, List.mem_of_getElem? (i := 105) (by decide +kernel), List.mem_of_getElem? (i := 615) (by decide +kernel), List.mem_of_getElem? (i := 616) (by decide +kernel)⟩
theorem lw_p27 : lw_okq (⟨"TextEngine$Maker", "areWellPlaced", "(II)Z"⟩, 3) := ⟨⟨by decide +kernel, by decide +kernel⟩, List.mem_of_getElem? (i := 105) (by decide +kernel), List.mem_of_getElem? (i := 619) (by decide +kernel), List.mem_of_getElem? (i := 620) (by decide +kernel)⟩
theorem lw_p28 : lw_okq (⟨"TextEngine$Maker", "overlapsEarlier", "(I)Z"⟩, 3) := ⟨⟨by decide +kernel, by decide +kernel⟩, List.mem_of_getElem? (i := 105) (by decide +kernel), List.mem_of_getElem? (i := 627) (by decide +kernel), List.mem_of_getElem? (i := 628) (by decide +kernel)⟩
theorem lw_p29 : lw_okq (⟨"TextEngine$Maker", "takeWeights", "(LTextEngine$Tensors;I)Z"⟩, 3) := ⟨⟨by decide +kernel, by decide +kernel⟩, List.mem_of_getElem? (i := 105) (by decide +kernel), List.mem_of_getElem? (i := 631) (by decide +kernel), List.mem_of_getElem? (i := 632) (by decide +kernel)⟩
theorem lw_p30 : lw_okq (⟨"TextEngine$Maker", "unpack", "(LTextEngine$Tensors;II)Z"⟩, 3) := ⟨⟨by decide +kernel, by decide +kernel⟩, List.mem_of_getElem? (i := 105) (by decide +kernel), List.mem_of_getElem? (i := 635) (by decide +kernel), List.mem_of_getElem? (i := 636) (by decide +kernel)⟩
theorem lw_p31 : lw_okq (⟨"TextEngine$Maker", "unpackHalves", "([FIII)Z"⟩, 3) := ⟨⟨by decide +kernel, by decide +kernel⟩, List.mem_of_getElem? (i := 105) (by decide +kernel), List.mem_of_getElem? (i := 639) (by decide +kernel), List.mem_of_getElem? (i := 640) (by decide +kernel)⟩
def lw_privs_2 : List (MethodName × Nat) := [(⟨"TextEngine$Maker", "takeHeads", "(LTextEngine$Model;)Z"⟩, 3), (⟨"TextEngine$Maker", "takeAlign", "(LTextEngine$Model;)Z"⟩, 3), (⟨"TextEngine$Maker", "takeReals", "(LTextEngine$Model;)Z"⟩, 3), (⟨"TextEngine$Maker", "takeWords", "(LTextEngine$Model;)Z"⟩, 3), (⟨"TextEngine$Maker", "takeTokens", "(LTextEngine$Model;)Z"⟩, 3), (⟨"TextEngine$Maker", "takeMerges", "(LTextEngine$Model;)Z"⟩, 3), (⟨"TextEngine$Words", "join", "(II)I"⟩, 6), (⟨"TextEngine$Words", "lengthOf", "(I)I"⟩, 6), (⟨"TextEngine$Words", "octetsOf", "(I)J"⟩, 6), (⟨"TextEngine$Maker", "takeShapes", "(LTextEngine$Model;)Z"⟩, 3), (⟨"TextEngine$Maker", "dataBegin", "(I)I"⟩, 3), (⟨"TextEngine$Maker", "areWellPlaced", "(II)Z"⟩, 3), (⟨"TextEngine$Maker", "overlapsEarlier", "(I)Z"⟩, 3), (⟨"TextEngine$Maker", "takeWeights", "(LTextEngine$Tensors;I)Z"⟩, 3), (⟨"TextEngine$Maker", "unpack", "(LTextEngine$Tensors;II)Z"⟩, 3), (⟨"TextEngine$Maker", "unpackHalves", "([FIII)Z"⟩, 3)]
theorem lw_r2 : ∀ q ∈ lw_privs_2, lw_okq q := List.forall_mem_cons.mpr ⟨lw_p16, List.forall_mem_cons.mpr ⟨lw_p17, List.forall_mem_cons.mpr ⟨lw_p18, List.forall_mem_cons.mpr ⟨lw_p19, List.forall_mem_cons.mpr ⟨lw_p20, List.forall_mem_cons.mpr ⟨lw_p21, List.forall_mem_cons.mpr ⟨lw_p22, List.forall_mem_cons.mpr ⟨lw_p23, List.forall_mem_cons.mpr ⟨lw_p24, List.forall_mem_cons.mpr ⟨lw_p25, List.forall_mem_cons.mpr ⟨lw_p26, List.forall_mem_cons.mpr ⟨lw_p27, List.forall_mem_cons.mpr ⟨lw_p28, List.forall_mem_cons.mpr ⟨lw_p29, List.forall_mem_cons.mpr ⟨lw_p30, List.forall_mem_cons.mpr ⟨lw_p31, fun _ h => absurd h List.not_mem_nil⟩⟩⟩⟩⟩⟩⟩⟩⟩⟩⟩⟩⟩⟩⟩⟩
theorem lw_p32 : lw_okq (⟨"TextEngine$Maker", "unpackFours", "([FIFI)V"⟩, 3) := ⟨⟨by decide +kernel, by decide +kernel⟩, List.mem_of_getElem? (i := 105) (by decide +kernel), List.mem_of_getElem? (i := 646) (by decide +kernel), List.mem_of_getElem? (i := 647) (by decide +kernel)⟩
theorem lw_p33 : lw_okq (⟨"TextEngine$Maker", "unpackEights", "([FIFI)V"⟩, 3) := ⟨⟨by decide +kernel, by decide +kernel⟩, List.mem_of_getElem? (i := 105) (by decide +kernel), List.mem_of_getElem? (i := 650) (by decide +kernel), List.mem_of_getElem? (i := 651) (by decide +kernel)⟩
theorem lw_p34 : lw_okq (⟨"TextEngine", "takeSpare", "()V"⟩, 10) := ⟨⟨by decide +kernel, by decide +kernel⟩, List.mem_of_getElem? (i := 19) (by decide +kernel), List.mem_of_getElem? (i := 654) (by decide +kernel), List.mem_of_getElem? (i := 655) (by decide +kernel)⟩
theorem lw_p35 : lw_okq (⟨"TextEngine", "forget", "()V"⟩, 10) := ⟨⟨by decide +kernel, by decide +kernel⟩, List.mem_of_getElem? (i := 19) (by decide +kernel), List.mem_of_getElem? (i := 658) (by decide +kernel), List.mem_of_getElem? (i := 659) (by decide +kernel)⟩
theorem lw_p36 : lw_okq (⟨"TextEngine$Encoder", "mergeOnce", "(LTextEngine$Words;)Z"⟩, 2) := ⟨⟨by decide +kernel, by decide +kernel⟩, List.mem_of_getElem? (i := 121) (by decide +kernel), List.mem_of_getElem? (i := 704) (by decide +kernel), List.mem_of_getElem? (i := 705) (by decide +kernel)⟩
theorem lw_p37 : lw_okq (⟨"TextEngine$Encoder", "join", "(II)V"⟩, 2) := ⟨⟨by decide +kernel, by decide +kernel⟩, List.mem_of_getElem? (i := 121) (by decide +kernel), List.mem_of_getElem? (i := 708) (by decide +kernel), List.mem_of_getElem? (i := 709) (by decide +kernel)⟩
theorem lw_p38 : lw_okq (⟨"TextEngine$Network", "attend", "(LTextEngine$Model;II)V"⟩, 11) := ⟨⟨by decide +kernel, by decide +kernel⟩, List.mem_of_getElem? (i := 136) (by decide +kernel), List.mem_of_getElem? (i := 737) (by decide +kernel), List.mem_of_getElem? (i := 738) (by decide +kernel)⟩
theorem lw_p39 : lw_okq (⟨"TextEngine$Network", "normalise", "(LTextEngine$Model;I)V"⟩, 11) := ⟨⟨by decide +kernel, by decide +kernel⟩, List.mem_of_getElem? (i := 136) (by decide +kernel), List.mem_of_getElem? (i := 744) (by decide +kernel), List.mem_of_getElem? (i := 745) (by decide +kernel)⟩
theorem lw_p40 : lw_okq (⟨"TextEngine$Network", "turn", "(LTextEngine$Model;[FII)V"⟩, 11) := ⟨⟨by decide +kernel, by decide +kernel⟩, List.mem_of_getElem? (i := 136) (by decide +kernel), List.mem_of_getElem? (i := 759) (by decide +kernel), List.mem_of_getElem? (i := 760) (by decide +kernel)⟩
theorem lw_p41 : lw_okq (⟨"TextEngine$Network", "weighHead", "(LTextEngine$Model;[FII)F"⟩, 11) := ⟨⟨by decide +kernel, by decide +kernel⟩, List.mem_of_getElem? (i := 136) (by decide +kernel), List.mem_of_getElem? (i := 764) (by decide +kernel), List.mem_of_getElem? (i := 765) (by decide +kernel)⟩
theorem lw_p42 : lw_okq (⟨"TextEngine$Network", "earliest", "(LTextEngine$Model;)I"⟩, 11) := ⟨⟨by decide +kernel, by decide +kernel⟩, List.mem_of_getElem? (i := 136) (by decide +kernel), List.mem_of_getElem? (i := 768) (by decide +kernel), List.mem_of_getElem? (i := 769) (by decide +kernel)⟩
theorem lw_p43 : lw_okq (⟨"TextEngine$Network", "mixHead", "(LTextEngine$Model;[FIIF)V"⟩, 11) := ⟨⟨by decide +kernel, by decide +kernel⟩, List.mem_of_getElem? (i := 136) (by decide +kernel), List.mem_of_getElem? (i := 779) (by decide +kernel), List.mem_of_getElem? (i := 780) (by decide +kernel)⟩
theorem lw_p44 : lw_okq (⟨"TextEngine$Network", "feed", "(LTextEngine$Model;I)V"⟩, 11) := ⟨⟨by decide +kernel, by decide +kernel⟩, List.mem_of_getElem? (i := 136) (by decide +kernel), List.mem_of_getElem? (i := 787) (by decide +kernel), List.mem_of_getElem? (i := 788) (by decide +kernel)⟩
theorem lw_p45 : lw_okq (⟨"TextEngine", "hasNoLogits", "()Z"⟩, 10) := ⟨⟨by decide +kernel, by decide +kernel⟩, List.mem_of_getElem? (i := 19) (by decide +kernel), List.mem_of_getElem? (i := 795) (by decide +kernel), List.mem_of_getElem? (i := 796) (by decide +kernel)⟩
theorem lw_p46 : lw_okq (⟨"TextEngine$Chooser", "addUp", "([FFI)V"⟩, 3) := ⟨⟨by decide +kernel, by decide +kernel⟩, List.mem_of_getElem? (i := 181) (by decide +kernel), List.mem_of_getElem? (i := 820) (by decide +kernel), List.mem_of_getElem? (i := 821) (by decide +kernel)⟩
theorem lw_p47 : lw_okq (⟨"TextEngine$Chooser", "firstAtLeast", "(FI)I"⟩, 3) := ⟨⟨by decide +kernel, by decide +kernel⟩, List.mem_of_getElem? (i := 181) (by decide +kernel), List.mem_of_getElem? (i := 825) (by decide +kernel), List.mem_of_getElem? (i := 826) (by decide +kernel)⟩
def lw_privs_3 : List (MethodName × Nat) := [(⟨"TextEngine$Maker", "unpackFours", "([FIFI)V"⟩, 3), (⟨"TextEngine$Maker", "unpackEights", "([FIFI)V"⟩, 3), (⟨"TextEngine", "takeSpare", "()V"⟩, 10), (⟨"TextEngine", "forget", "()V"⟩, 10), (⟨"TextEngine$Encoder", "mergeOnce", "(LTextEngine$Words;)Z"⟩, 2), (⟨"TextEngine$Encoder", "join", "(II)V"⟩, 2), (⟨"TextEngine$Network", "attend", "(LTextEngine$Model;II)V"⟩, 11), (⟨"TextEngine$Network", "normalise", "(LTextEngine$Model;I)V"⟩, 11), (⟨"TextEngine$Network", "turn", "(LTextEngine$Model;[FII)V"⟩, 11), (⟨"TextEngine$Network", "weighHead", "(LTextEngine$Model;[FII)F"⟩, 11), (⟨"TextEngine$Network", "earliest", "(LTextEngine$Model;)I"⟩, 11), (⟨"TextEngine$Network", "mixHead", "(LTextEngine$Model;[FIIF)V"⟩, 11), (⟨"TextEngine$Network", "feed", "(LTextEngine$Model;I)V"⟩, 11), (⟨"TextEngine", "hasNoLogits", "()Z"⟩, 10), (⟨"TextEngine$Chooser", "addUp", "([FFI)V"⟩, 3), (⟨"TextEngine$Chooser", "firstAtLeast", "(FI)I"⟩, 3)]
theorem lw_r3 : ∀ q ∈ lw_privs_3, lw_okq q := List.forall_mem_cons.mpr ⟨lw_p32, List.forall_mem_cons.mpr ⟨lw_p33, List.forall_mem_cons.mpr ⟨lw_p34, List.forall_mem_cons.mpr ⟨lw_p35, List.forall_mem_cons.mpr ⟨lw_p36, List.forall_mem_cons.mpr ⟨lw_p37, List.forall_mem_cons.mpr ⟨lw_p38, List.forall_mem_cons.mpr ⟨lw_p39, List.forall_mem_cons.mpr ⟨lw_p40, List.forall_mem_cons.mpr ⟨lw_p41, List.forall_mem_cons.mpr ⟨lw_p42, List.forall_mem_cons.mpr ⟨lw_p43, List.forall_mem_cons.mpr ⟨lw_p44, List.forall_mem_cons.mpr ⟨lw_p45, List.forall_mem_cons.mpr ⟨lw_p46, List.forall_mem_cons.mpr ⟨lw_p47, fun _ h => absurd h List.not_mem_nil⟩⟩⟩⟩⟩⟩⟩⟩⟩⟩⟩⟩⟩⟩⟩⟩
theorem lw_p48 : lw_okq (⟨"TextEngine$Chooser", "moveOn", "()V"⟩, 3) := ⟨⟨by decide +kernel, by decide +kernel⟩, List.mem_of_getElem? (i := 181) (by decide +kernel), List.mem_of_getElem? (i := 829) (by decide +kernel), List.mem_of_getElem? (i := 830) (by decide +kernel)⟩
theorem lw_p49 : lw_okq (⟨"TextEngine", "sayOne", "()Z"⟩, 10) := ⟨⟨by decide +kernel, by decide +kernel⟩, List.mem_of_getElem? (i := 19) (by decide +kernel), List.mem_of_getElem? (i := 838) (by decide +kernel), List.mem_of_getElem? (i := 839) (by decide +kernel)⟩
theorem lw_p50 : lw_okq (⟨"TextEngineModel", "parse", "()V"⟩, 63) := ⟨⟨by decide +kernel, by decide +kernel⟩, List.mem_of_getElem? (i := 858) (by decide +kernel), List.mem_of_getElem? (i := 1074) (by decide +kernel), List.mem_of_getElem? (i := 1075) (by decide +kernel)⟩
theorem lw_p51 : lw_okq (⟨"TextEngineModel", "read", "(I)I"⟩, 63) := ⟨⟨by decide +kernel, by decide +kernel⟩, List.mem_of_getElem? (i := 858) (by decide +kernel), List.mem_of_getElem? (i := 1078) (by decide +kernel), List.mem_of_getElem? (i := 1079) (by decide +kernel)⟩
theorem lw_p52 : lw_okq (⟨"TextEngineModel", "bad", "(ZII)V"⟩, 63) := ⟨⟨by decide +kernel, by decide +kernel⟩, List.mem_of_getElem? (i := 858) (by decide +kernel), List.mem_of_getElem? (i := 1082) (by decide +kernel), List.mem_of_getElem? (i := 1083) (by decide +kernel)⟩
theorem lw_p53 : lw_okq (⟨"TextEngineModel", "u", "(II)I"⟩, 63) := ⟨⟨by decide +kernel, by decide +kernel⟩, List.mem_of_getElem? (i := 858) (by decide +kernel), List.mem_of_getElem? (i := 1086) (by decide +kernel), List.mem_of_getElem? (i := 1087) (by decide +kernel)⟩
theorem lw_p54 : lw_okq (⟨"TextEngineModel", "many", "(I)I"⟩, 63) := ⟨⟨by decide +kernel, by decide +kernel⟩, List.mem_of_getElem? (i := 858) (by decide +kernel), List.mem_of_getElem? (i := 1091) (by decide +kernel), List.mem_of_getElem? (i := 1092) (by decide +kernel)⟩
theorem lw_p55 : lw_okq (⟨"TextEngineModel", "string", "(Z)V"⟩, 63) := ⟨⟨by decide +kernel, by decide +kernel⟩, List.mem_of_getElem? (i := 858) (by decide +kernel), List.mem_of_getElem? (i := 1095) (by decide +kernel), List.mem_of_getElem? (i := 1096) (by decide +kernel)⟩
theorem lw_p56 : lw_okq (⟨"TextEngineModel", "alike", "(II)Z"⟩, 63) := ⟨⟨by decide +kernel, by decide +kernel⟩, List.mem_of_getElem? (i := 858) (by decide +kernel), List.mem_of_getElem? (i := 1099) (by decide +kernel), List.mem_of_getElem? (i := 1100) (by decide +kernel)⟩
theorem lw_p57 : lw_okq (⟨"TextEngineModel", "kind", "()I"⟩, 63) := ⟨⟨by decide +kernel, by decide +kernel⟩, List.mem_of_getElem? (i := 858) (by decide +kernel), List.mem_of_getElem? (i := 1103) (by decide +kernel), List.mem_of_getElem? (i := 1104) (by decide +kernel)⟩
theorem lw_p58 : lw_okq (⟨"TextEngineModel", "value", "(I)V"⟩, 63) := ⟨⟨by decide +kernel, by decide +kernel⟩, List.mem_of_getElem? (i := 858) (by decide +kernel), List.mem_of_getElem? (i := 1107) (by decide +kernel), List.mem_of_getElem? (i := 1108) (by decide +kernel)⟩
theorem lw_p59 : lw_okq (⟨"TextEngineModel", "plain", "(I)V"⟩, 63) := ⟨⟨by decide +kernel, by decide +kernel⟩, List.mem_of_getElem? (i := 858) (by decide +kernel), List.mem_of_getElem? (i := 1111) (by decide +kernel), List.mem_of_getElem? (i := 1112) (by decide +kernel)⟩
theorem lw_p60 : lw_okq (⟨"TextEngineModel", "info", "(I)V"⟩, 63) := ⟨⟨by decide +kernel, by decide +kernel⟩, List.mem_of_getElem? (i := 858) (by decide +kernel), List.mem_of_getElem? (i := 1115) (by decide +kernel), List.mem_of_getElem? (i := 1116) (by decide +kernel)⟩
theorem lw_p61 : lw_okq (⟨"TextEngineModel", "look", "()V"⟩, 63) := ⟨⟨by decide +kernel, by decide +kernel⟩, List.mem_of_getElem? (i := 858) (by decide +kernel), List.mem_of_getElem? (i := 1119) (by decide +kernel), List.mem_of_getElem? (i := 1120) (by decide +kernel)⟩
theorem lw_p62 : lw_okq (⟨"TextEngineModel", "key", "(JII)I"⟩, 63) := ⟨⟨by decide +kernel, by decide +kernel⟩, List.mem_of_getElem? (i := 858) (by decide +kernel), List.mem_of_getElem? (i := 1124) (by decide +kernel), List.mem_of_getElem? (i := 1125) (by decide +kernel)⟩
theorem lw_p63 : lw_okq (⟨"TextEngineModel", "is", "(IJI)Z"⟩, 63) := ⟨⟨by decide +kernel, by decide +kernel⟩, List.mem_of_getElem? (i := 858) (by decide +kernel), List.mem_of_getElem? (i := 1128) (by decide +kernel), List.mem_of_getElem? (i := 1129) (by decide +kernel)⟩
def lw_privs_4 : List (MethodName × Nat) := [(⟨"TextEngine$Chooser", "moveOn", "()V"⟩, 3), (⟨"TextEngine", "sayOne", "()Z"⟩, 10), (⟨"TextEngineModel", "parse", "()V"⟩, 63), (⟨"TextEngineModel", "read", "(I)I"⟩, 63), (⟨"TextEngineModel", "bad", "(ZII)V"⟩, 63), (⟨"TextEngineModel", "u", "(II)I"⟩, 63), (⟨"TextEngineModel", "many", "(I)I"⟩, 63), (⟨"TextEngineModel", "string", "(Z)V"⟩, 63), (⟨"TextEngineModel", "alike", "(II)Z"⟩, 63), (⟨"TextEngineModel", "kind", "()I"⟩, 63), (⟨"TextEngineModel", "value", "(I)V"⟩, 63), (⟨"TextEngineModel", "plain", "(I)V"⟩, 63), (⟨"TextEngineModel", "info", "(I)V"⟩, 63), (⟨"TextEngineModel", "look", "()V"⟩, 63), (⟨"TextEngineModel", "key", "(JII)I"⟩, 63), (⟨"TextEngineModel", "is", "(IJI)Z"⟩, 63)]
theorem lw_r4 : ∀ q ∈ lw_privs_4, lw_okq q := List.forall_mem_cons.mpr ⟨lw_p48, List.forall_mem_cons.mpr ⟨lw_p49, List.forall_mem_cons.mpr ⟨lw_p50, List.forall_mem_cons.mpr ⟨lw_p51, List.forall_mem_cons.mpr ⟨lw_p52, List.forall_mem_cons.mpr ⟨lw_p53, List.forall_mem_cons.mpr ⟨lw_p54, List.forall_mem_cons.mpr ⟨lw_p55, List.forall_mem_cons.mpr ⟨lw_p56, List.forall_mem_cons.mpr ⟨lw_p57, List.forall_mem_cons.mpr ⟨lw_p58, List.forall_mem_cons.mpr ⟨lw_p59, List.forall_mem_cons.mpr ⟨lw_p60, List.forall_mem_cons.mpr ⟨lw_p61, List.forall_mem_cons.mpr ⟨lw_p62, List.forall_mem_cons.mpr ⟨lw_p63, fun _ h => absurd h List.not_mem_nil⟩⟩⟩⟩⟩⟩⟩⟩⟩⟩⟩⟩⟩⟩⟩⟩
theorem lw_p64 : lw_okq (⟨"TextEngineModel", "typesFit", "(II)Z"⟩, 63) := ⟨⟨by decide +kernel, by decide +kernel⟩, List.mem_of_getElem? (i := 858) (by decide +kernel), List.mem_of_getElem? (i := 1142) (by decide +kernel), List.mem_of_getElem? (i := 1143) (by decide +kernel)⟩
theorem lw_p65 : lw_okq (⟨"TextEngineModel", "half", "(I)J"⟩, 63) := ⟨⟨by decide +kernel, by decide +kernel⟩, List.mem_of_getElem? (i := 858) (by decide +kernel), List.mem_of_getElem? (i := 1146) (by decide +kernel), List.mem_of_getElem? (i := 1147) (by decide +kernel)⟩
theorem lw_p66 : lw_okq (⟨"TextEngineModel", "texts", "(I)Z"⟩, 63) := ⟨⟨by decide +kernel, by decide +kernel⟩, List.mem_of_getElem? (i := 858) (by decide +kernel), List.mem_of_getElem? (i := 1154) (by decide +kernel), List.mem_of_getElem? (i := 1155) (by decide +kernel)⟩
theorem lw_p67 : lw_okq (⟨"TextEngineModel", "pairsOf", "(I)Z"⟩, 63) := ⟨⟨by decide +kernel, by decide +kernel⟩, List.mem_of_getElem? (i := 858) (by decide +kernel), List.mem_of_getElem? (i := 1158) (by decide +kernel), List.mem_of_getElem? (i := 1159) (by decide +kernel)⟩
theorem lw_p68 : lw_okq (⟨"TextEngineModel", "together", "(II)I"⟩, 63) := ⟨⟨by decide +kernel, by decide +kernel⟩, List.mem_of_getElem? (i := 858) (by decide +kernel), List.mem_of_getElem? (i := 1162) (by decide +kernel), List.mem_of_getElem? (i := 1163) (by decide +kernel)⟩
theorem lw_p69 : lw_okq (⟨"TextEngineModel", "align", "()V"⟩, 63) := ⟨⟨by decide +kernel, by decide +kernel⟩, List.mem_of_getElem? (i := 858) (by decide +kernel), List.mem_of_getElem? (i := 1166) (by decide +kernel), List.mem_of_getElem? (i := 1167) (by decide +kernel)⟩
theorem lw_p70 : lw_okq (⟨"TextEngineModel", "shapes", "()V"⟩, 63) := ⟨⟨by decide +kernel, by decide +kernel⟩, List.mem_of_getElem? (i := 858) (by decide +kernel), List.mem_of_getElem? (i := 1171) (by decide +kernel), List.mem_of_getElem? (i := 1172) (by decide +kernel)⟩
theorem lw_p71 : lw_okq (⟨"TextEngineModel", "need", "(IJIII)V"⟩, 63) := ⟨⟨by decide +kernel, by decide +kernel⟩, List.mem_of_getElem? (i := 858) (by decide +kernel), List.mem_of_getElem? (i := 1176) (by decide +kernel), List.mem_of_getElem? (i := 1177) (by decide +kernel)⟩
theorem lw_p72 : lw_okq (⟨"TextEngineModel", "places", "()V"⟩, 63) := ⟨⟨by decide +kernel, by decide +kernel⟩, List.mem_of_getElem? (i := 858) (by decide +kernel), List.mem_of_getElem? (i := 1192) (by decide +kernel), List.mem_of_getElem? (i := 1193) (by decide +kernel)⟩
theorem lw_p73 : lw_okq (⟨"TextEngineModel", "octets", "(I)I"⟩, 63) := ⟨⟨by decide +kernel, by decide +kernel⟩, List.mem_of_getElem? (i := 858) (by decide +kernel), List.mem_of_getElem? (i := 1196) (by decide +kernel), List.mem_of_getElem? (i := 1197) (by decide +kernel)⟩
theorem lw_p74 : lw_okq (⟨"TextEngineModel", "take", "()V"⟩, 63) := ⟨⟨by decide +kernel, by decide +kernel⟩, List.mem_of_getElem? (i := 858) (by decide +kernel), List.mem_of_getElem? (i := 1200) (by decide +kernel), List.mem_of_getElem? (i := 1201) (by decide +kernel)⟩
theorem lw_p75 : lw_okq (⟨"TextEngineModel", "weigh", "(II)F"⟩, 63) := ⟨⟨by decide +kernel, by decide +kernel⟩, List.mem_of_getElem? (i := 858) (by decide +kernel), List.mem_of_getElem? (i := 1204) (by decide +kernel), List.mem_of_getElem? (i := 1205) (by decide +kernel)⟩
theorem lw_p76 : lw_okq (⟨"TextEngineModel", "layer", "(I)V"⟩, 63) := ⟨⟨by decide +kernel, by decide +kernel⟩, List.mem_of_getElem? (i := 858) (by decide +kernel), List.mem_of_getElem? (i := 1245) (by decide +kernel), List.mem_of_getElem? (i := 1246) (by decide +kernel)⟩
theorem lw_p77 : lw_okq (⟨"TextEngineModel", "norm", "(I)V"⟩, 63) := ⟨⟨by decide +kernel, by decide +kernel⟩, List.mem_of_getElem? (i := 858) (by decide +kernel), List.mem_of_getElem? (i := 1249) (by decide +kernel), List.mem_of_getElem? (i := 1250) (by decide +kernel)⟩
theorem lw_p78 : lw_okq (⟨"TextEngineModel", "dot", "(II[F)F"⟩, 63) := ⟨⟨by decide +kernel, by decide +kernel⟩, List.mem_of_getElem? (i := 858) (by decide +kernel), List.mem_of_getElem? (i := 1256) (by decide +kernel), List.mem_of_getElem? (i := 1257) (by decide +kernel)⟩
theorem lw_p79 : lw_okq (⟨"TextEngineModel", "turnAll", "([FI)V"⟩, 63) := ⟨⟨by decide +kernel, by decide +kernel⟩, List.mem_of_getElem? (i := 858) (by decide +kernel), List.mem_of_getElem? (i := 1260) (by decide +kernel), List.mem_of_getElem? (i := 1261) (by decide +kernel)⟩
def lw_privs_5 : List (MethodName × Nat) := [(⟨"TextEngineModel", "typesFit", "(II)Z"⟩, 63), (⟨"TextEngineModel", "half", "(I)J"⟩, 63), (⟨"TextEngineModel", "texts", "(I)Z"⟩, 63), (⟨"TextEngineModel", "pairsOf", "(I)Z"⟩, 63), (⟨"TextEngineModel", "together", "(II)I"⟩, 63), (⟨"TextEngineModel", "align", "()V"⟩, 63), (⟨"TextEngineModel", "shapes", "()V"⟩, 63), (⟨"TextEngineModel", "need", "(IJIII)V"⟩, 63), (⟨"TextEngineModel", "places", "()V"⟩, 63), (⟨"TextEngineModel", "octets", "(I)I"⟩, 63), (⟨"TextEngineModel", "take", "()V"⟩, 63), (⟨"TextEngineModel", "weigh", "(II)F"⟩, 63), (⟨"TextEngineModel", "layer", "(I)V"⟩, 63), (⟨"TextEngineModel", "norm", "(I)V"⟩, 63), (⟨"TextEngineModel", "dot", "(II[F)F"⟩, 63), (⟨"TextEngineModel", "turnAll", "([FI)V"⟩, 63)]
theorem lw_r5 : ∀ q ∈ lw_privs_5, lw_okq q := List.forall_mem_cons.mpr ⟨lw_p64, List.forall_mem_cons.mpr ⟨lw_p65, List.forall_mem_cons.mpr ⟨lw_p66, List.forall_mem_cons.mpr ⟨lw_p67, List.forall_mem_cons.mpr ⟨lw_p68, List.forall_mem_cons.mpr ⟨lw_p69, List.forall_mem_cons.mpr ⟨lw_p70, List.forall_mem_cons.mpr ⟨lw_p71, List.forall_mem_cons.mpr ⟨lw_p72, List.forall_mem_cons.mpr ⟨lw_p73, List.forall_mem_cons.mpr ⟨lw_p74, List.forall_mem_cons.mpr ⟨lw_p75, List.forall_mem_cons.mpr ⟨lw_p76, List.forall_mem_cons.mpr ⟨lw_p77, List.forall_mem_cons.mpr ⟨lw_p78, List.forall_mem_cons.mpr ⟨lw_p79, fun _ h => absurd h List.not_mem_nil⟩⟩⟩⟩⟩⟩⟩⟩⟩⟩⟩⟩⟩⟩⟩⟩
theorem lw_p80 : lw_okq (⟨"TextEngineModel", "attend", "(I)V"⟩, 63) := ⟨⟨by decide +kernel, by decide +kernel⟩, List.mem_of_getElem? (i := 858) (by decide +kernel), List.mem_of_getElem? (i := 1265) (by decide +kernel), List.mem_of_getElem? (i := 1266) (by decide +kernel)⟩
theorem lw_p81 : lw_okq (⟨"TextEngineModel", "sort", "()V"⟩, 63) := ⟨⟨by decide +kernel, by decide +kernel⟩, List.mem_of_getElem? (i := 858) (by decide +kernel), List.mem_of_getElem? (i := 1288) (by decide +kernel), List.mem_of_getElem? (i := 1289) (by decide +kernel)⟩
def lw_privs_6 : List (MethodName × Nat) := [(⟨"TextEngineModel", "attend", "(I)V"⟩, 63), (⟨"TextEngineModel", "sort", "()V"⟩, 63)]
theorem lw_r6 : ∀ q ∈ lw_privs_6, lw_okq q := List.forall_mem_cons.mpr ⟨lw_p80, List.forall_mem_cons.mpr ⟨lw_p81, fun _ h => absurd h List.not_mem_nil⟩⟩
def lw_privs : List (MethodName × Nat) := lw_privs_1 ++ (lw_privs_2 ++ (lw_privs_3 ++ (lw_privs_4 ++ (lw_privs_5 ++ (lw_privs_6)))))
def lw_tbl : List Cond := k2_sels lw_privs ++ tables_1
theorem lw_privs_ok : ∀ q ∈ lw_privs, lw_okq q := by
  show ∀ q ∈ lw_privs_1 ++ (lw_privs_2 ++ (lw_privs_3 ++ (lw_privs_4 ++ (lw_privs_5 ++ (lw_privs_6))))), lw_okq q
  exact List.forall_mem_append.mpr ⟨lw_r1, List.forall_mem_append.mpr ⟨lw_r2, List.forall_mem_append.mpr ⟨lw_r3, List.forall_mem_append.mpr ⟨lw_r4, List.forall_mem_append.mpr ⟨lw_r5, lw_r6⟩⟩⟩⟩⟩
end
section
/-! A MACHINE ON PAPER: an interpreter of the bytecode over cells that are numbered in the order of their making. -/
/-- the shape of a cell: an array (type of its entries, length, what it refers to), or an object (number of its class, what its fields refer to) -/
abbrev xS : Type := (FieldType × Nat × List (Option Nat)) ⊕ (Nat × List (Option Nat))
/-- the numbers in the cells: by cell and place -/
abbrev xD : Type := (Nat → Nat → Int32) × (Nat → Nat → Int64) × (Nat → Nat → UInt32)
abbrev xH : Type := List xS × xD
abbrev xL : Type := List (Option Value)
/-- a frame: pc, locals, stack, heap -/
abbrev xF : Type := Nat × xL × List Value × xH
/-- an instruction as the tables have it: the instruction, the next pc, its numbers (targets, class and field, method ..), its constant -/
abbrev xN : Type := Instr × Nat × List Nat × Value
/-- a method: name, bytes, locals, type of the answer, class, its instructions by pc -/
abbrev xM : Type := MethodName × ByteArray × Nat × Option FieldType × String × (Nat → Option xN)
/-- all methods by number, all classes' field types by number, length and letter of the text constants -/
abbrev xE : Type := (Nat → xM) × (Nat → List FieldType) × (Nat → Nat) × (Nat → Nat → Int32)
/-- what an instruction does: go on; go on where a condition holds; choose; call; end -/
abbrev xO : Type := xF ⊕ (Prop × xF) ⊕ (List (Prop × xF) × xF) ⊕ (Nat × List Value × Nat × xL × List Value × xH) ⊕ (Prop × Option Value × xH)
abbrev xP : Type := Option Value → xH → Prop
def xt0 : Nat := 1000000
def x2 {α : Type} (f : Nat → Nat → α) (a k : Nat) (x : α) : Nat → Nat → α := fun b j => bif Nat.beq b a && Nat.beq j k then x else f b j
def x0 {α : Type} (f : Nat → Nat → α) (a : Nat) (z : α) : Nat → Nat → α := fun b j => bif Nat.beq b a then z else f b j
def xrv : Option (Option Nat) → Value
  | some (some q) => .ref q
  | _ => .null
def xget (ty : FieldType) (k a : Nat) (rf : List (Option Nat)) (d : xD) : Value := match ty with
  | .long => .long (d.2.1 a k)
  | .float => .float (d.2.2 a k)
  | .double => .retAddr 0
  | .object _ => xrv rf[k]?
  | .array _ => xrv rf[k]?
  | _ => .int (d.1 a k)
def xno (f : xF) : xO := .inr (.inl (False, f))
def xld (ls : xL) (i : Nat) : Option Value := match ls[i]? with
  | some o => o
  | none => none
/-- a store into a local: what was there before goes, the second half of a long too -/
def xkill (ls : xL) (i : Nat) : xL := match i with
  | 0 => ls
  | j + 1 => match xld ls j with
    | some w => bif Nat.beq w.category 2 then ls.set j none else ls
    | none => ls
def xput (ls : xL) (i : Nat) (v : Value) : Option xL := match ls[i]? with
  | none => none
  | some _ => some ((xkill ls i).set i (some v))
def xput2 (ls : xL) (i : Nat) (v : Value) : Option xL := match ls[i + 1]? with
  | none => none
  | some _ => some (((xkill ls i).set i (some v)).set (i + 1) none)
def xpop : Nat → List Value → List Value → Option (List Value × List Value)
  | 0, st, acc => some (acc, st)
  | _ + 1, [], _ => none
  | n + 1, v :: st, acc => xpop n st (v :: acc)
def xflat : List Value → xL
  | [] => []
  | v :: vs => bif Nat.beq v.category 2 then some v :: none :: xflat vs else some v :: xflat vs
def xpad : Nat → xL → xL
  | 0, l => l
  | n + 1, [] => none :: xpad n []
  | n + 1, v :: l => v :: xpad n l
def xent (M : xM) (av : List Value) : xL := xpad M.2.2.1 (xflat av)
def xcat (st : List Value) : Nat := (st.map fun v => v.category).sum
/-- integers -/
def xii (g : Int32 → Int32 → Int32) (nx : Nat) (ls : xL) (st : List Value) (h : xH) : xO := match st with
  | .int y :: .int x :: r => .inl (nx, ls, .int (g x y) :: r, h)
  | _ => xno (nx, ls, st, h)
def xi (g : Int32 → Value) (nx : Nat) (ls : xL) (st : List Value) (h : xH) : xO := match st with
  | .int x :: r => .inl (nx, ls, g x :: r, h)
  | _ => xno (nx, ls, st, h)
def xiiD (g : Int32 → Int32 → Int32) (nx : Nat) (ls : xL) (st : List Value) (h : xH) : xO := match st with
  | .int y :: .int x :: r => .inr (.inl (¬ y = 0, nx, ls, .int (g x y) :: r, h))
  | _ => xno (nx, ls, st, h)
def xll (g : Int64 → Int64 → Value) (nx : Nat) (ls : xL) (st : List Value) (h : xH) : xO := match st with
  | .long y :: .long x :: r => .inl (nx, ls, g x y :: r, h)
  | _ => xno (nx, ls, st, h)
def xl (g : Int64 → Value) (nx : Nat) (ls : xL) (st : List Value) (h : xH) : xO := match st with
  | .long x :: r => .inl (nx, ls, g x :: r, h)
  | _ => xno (nx, ls, st, h)
def xli (g : Int64 → Int32 → Int64) (nx : Nat) (ls : xL) (st : List Value) (h : xH) : xO := match st with
  | .int y :: .long x :: r => .inl (nx, ls, .long (g x y) :: r, h)
  | _ => xno (nx, ls, st, h)
/-- floats: no answer may be NaN -/
def xff (g : UInt32 → UInt32 → UInt32) (nx : Nat) (ls : xL) (st : List Value) (h : xH) : xO := match st with
  | .float y :: .float x :: r => .inr (.inl (vf_n32 (g x y), nx, ls, .float (g x y) :: r, h))
  | _ => xno (nx, ls, st, h)
def xf (g : UInt32 → Value) (nx : Nat) (ls : xL) (st : List Value) (h : xH) : xO := match st with
  | .float x :: r => .inl (nx, ls, g x :: r, h)
  | _ => xno (nx, ls, st, h)
def xfc (op : CmpOp) (nx : Nat) (ls : xL) (st : List Value) (h : xH) : xO := match st with
  | .float y :: .float x :: r => .inl (nx, ls, .int (Op.cmpValue (FP.fcmp x y) op) :: r, h)
  | _ => xno (nx, ls, st, h)
/-- loads and stores of locals -/
def xloi (i nx : Nat) (ls : xL) (st : List Value) (h : xH) : xO := match xld ls i with
  | some (.int x) => .inl (nx, ls, .int x :: st, h)
  | _ => xno (nx, ls, st, h)
def xlol (i nx : Nat) (ls : xL) (st : List Value) (h : xH) : xO := match xld ls i with
  | some (.long x) => .inl (nx, ls, .long x :: st, h)
  | _ => xno (nx, ls, st, h)
def xlof (i nx : Nat) (ls : xL) (st : List Value) (h : xH) : xO := match xld ls i with
  | some (.float x) => .inl (nx, ls, .float x :: st, h)
  | _ => xno (nx, ls, st, h)
def xloa (i nx : Nat) (ls : xL) (st : List Value) (h : xH) : xO := match xld ls i with
  | some (.ref x) => .inl (nx, ls, .ref x :: st, h)
  | some .null => .inl (nx, ls, .null :: st, h)
  | _ => xno (nx, ls, st, h)
def xsti (i nx : Nat) (ls : xL) (st : List Value) (h : xH) : xO := match st with
  | .int x :: r => (match xput ls i (.int x) with
    | some ls' => .inl (nx, ls', r, h)
    | none => xno (nx, ls, st, h))
  | _ => xno (nx, ls, st, h)
def xstf (i nx : Nat) (ls : xL) (st : List Value) (h : xH) : xO := match st with
  | .float x :: r => (match xput ls i (.float x) with
    | some ls' => .inl (nx, ls', r, h)
    | none => xno (nx, ls, st, h))
  | _ => xno (nx, ls, st, h)
def xsta (i nx : Nat) (ls : xL) (st : List Value) (h : xH) : xO := match st with
  | .ref x :: r => (match xput ls i (.ref x) with
    | some ls' => .inl (nx, ls', r, h)
    | none => xno (nx, ls, st, h))
  | .null :: r => (match xput ls i .null with
    | some ls' => .inl (nx, ls', r, h)
    | none => xno (nx, ls, st, h))
  | _ => xno (nx, ls, st, h)
def xstl (i nx : Nat) (ls : xL) (st : List Value) (h : xH) : xO := match st with
  | .long x :: r => (match xput2 ls i (.long x) with
    | some ls' => .inl (nx, ls', r, h)
    | none => xno (nx, ls, st, h))
  | _ => xno (nx, ls, st, h)
def xinc (i : Nat) (v : Value) (nx : Nat) (ls : xL) (st : List Value) (h : xH) : xO := match xld ls i, v with
  | some (.int x), .int k => (match xput ls i (.int (x + k)) with
    | some ls' => .inl (nx, ls', st, h)
    | none => xno (nx, ls, st, h))
  | _, _ => xno (nx, ls, st, h)
/-- branches -/
def xb1t (g : Int32 → Prop) (nx t : Nat) (ls : xL) (st : List Value) (h : xH) : xO := match st with
  | .int x :: r => .inr (.inr (.inl ([(g x, t, ls, r, h)], nx, ls, r, h)))
  | _ => xno (nx, ls, st, h)
def xb1 (g : Int32 → Prop) (nx : Nat) (tg : List Nat) (ls : xL) (st : List Value) (h : xH) : xO := match tg with
  | [t] => xb1t g nx t ls st h
  | _ => xno (nx, ls, st, h)
def xb2t (g : Int32 → Int32 → Prop) (nx t : Nat) (ls : xL) (st : List Value) (h : xH) : xO := match st with
  | .int y :: .int x :: r => .inr (.inr (.inl ([(g x y, t, ls, r, h)], nx, ls, r, h)))
  | _ => xno (nx, ls, st, h)
def xb2 (g : Int32 → Int32 → Prop) (nx : Nat) (tg : List Nat) (ls : xL) (st : List Value) (h : xH) : xO := match tg with
  | [t] => xb2t g nx t ls st h
  | _ => xno (nx, ls, st, h)
def xnul (a b : Nat) (ls : xL) (st : List Value) (h : xH) : xO := match st with
  | .null :: r => .inl (a, ls, r, h)
  | .ref _ :: r => .inl (b, ls, r, h)
  | _ => xno (0, ls, st, h)
def xsw (ls : xL) (r : List Value) (h : xH) (x : Int32) : Int → List Nat → List (Prop × xF)
  | _, [] => []
  | k, t :: ts => (x.toInt = k, t, ls, r, h) :: xsw ls r h x (k + 1) ts
/-- fields -/
def xgft (E : xE) (nx ci k : Nat) (ls : xL) (st : List Value) (h : xH) : xO := match st with
  | .ref a :: r => (match h.1[a]?, (E.2.1 ci)[k]? with
    | some (.inr (c2, rf)), some ty => (bif Nat.beq c2 ci then .inl (nx, ls, xget ty k a rf h.2 :: r, h) else xno (nx, ls, st, h))
    | _, _ => xno (nx, ls, st, h))
  | _ => xno (nx, ls, st, h)
def xgf (E : xE) (nx : Nat) (tg : List Nat) (ls : xL) (st : List Value) (h : xH) : xO := match tg with
  | [ci, k] => xgft E nx ci k ls st h
  | _ => xno (nx, ls, st, h)
def xwr (nx : Nat) (ls : xL) (r st : List Value) (h : xH) (a ci k : Nat) (rf : List (Option Nat)) (ty : FieldType) (v : Value) : xO := match ty, v with
  | .int, .int x => .inl (nx, ls, r, h.1, x2 h.2.1 a k x, h.2.2)
  | .boolean, .int x => .inr (.inl (x = 0 ∨ x = 1, nx, ls, r, h.1, x2 h.2.1 a k x, h.2.2))
  | .long, .long x => .inl (nx, ls, r, h.1, h.2.1, x2 h.2.2.1 a k x, h.2.2.2)
  | .float, .float x => .inl (nx, ls, r, h.1, h.2.1, h.2.2.1, x2 h.2.2.2 a k x)
  | .object _, .ref q => .inl (nx, ls, r, h.1.set a (.inr (ci, rf.set k (some q))), h.2)
  | .array _, .ref q => .inl (nx, ls, r, h.1.set a (.inr (ci, rf.set k (some q))), h.2)
  | .object _, .null => .inl (nx, ls, r, h.1.set a (.inr (ci, rf.set k none)), h.2)
  | .array _, .null => .inl (nx, ls, r, h.1.set a (.inr (ci, rf.set k none)), h.2)
  | _, _ => xno (nx, ls, st, h)
def xpft (E : xE) (nx ci k : Nat) (ls : xL) (st : List Value) (h : xH) : xO := match st with
  | v :: .ref a :: r => (match h.1[a]?, (E.2.1 ci)[k]? with
    | some (.inr (c2, rf)), some ty => (bif Nat.beq c2 ci then xwr nx ls r st h a ci k rf ty v else xno (nx, ls, st, h))
    | _, _ => xno (nx, ls, st, h))
  | _ => xno (nx, ls, st, h)
def xpf (E : xE) (nx : Nat) (tg : List Nat) (ls : xL) (st : List Value) (h : xH) : xO := match tg with
  | [ci, k] => xpft E nx ci k ls st h
  | _ => xno (nx, ls, st, h)
/-- arrays -/
def xaldI (nx : Nat) (ls : xL) (st : List Value) (h : xH) : xO := match st with
  | .int i :: .ref a :: r => (match h.1[a]? with
    | some (.inl (.int, n, _)) => .inr (.inl (vp_in i n, nx, ls, .int (h.2.1 a i.toNatClampNeg) :: r, h))
    | _ => xno (nx, ls, st, h))
  | _ => xno (nx, ls, st, h)
def xaldB (nx : Nat) (ls : xL) (st : List Value) (h : xH) : xO := match st with
  | .int i :: .ref a :: r => (match h.1[a]? with
    | some (.inl (.byte, n, _)) => .inr (.inl (vp_in i n, nx, ls, .int (h.2.1 a i.toNatClampNeg) :: r, h))
    | _ => xno (nx, ls, st, h))
  | _ => xno (nx, ls, st, h)
def xaldL (nx : Nat) (ls : xL) (st : List Value) (h : xH) : xO := match st with
  | .int i :: .ref a :: r => (match h.1[a]? with
    | some (.inl (.long, n, _)) => .inr (.inl (vp_in i n, nx, ls, .long (h.2.2.1 a i.toNatClampNeg) :: r, h))
    | _ => xno (nx, ls, st, h))
  | _ => xno (nx, ls, st, h)
def xaldF (nx : Nat) (ls : xL) (st : List Value) (h : xH) : xO := match st with
  | .int i :: .ref a :: r => (match h.1[a]? with
    | some (.inl (.float, n, _)) => .inr (.inl (vp_in i n, nx, ls, .float (h.2.2.2 a i.toNatClampNeg) :: r, h))
    | _ => xno (nx, ls, st, h))
  | _ => xno (nx, ls, st, h)
def xaldA (nx : Nat) (ls : xL) (st : List Value) (h : xH) : xO := match st with
  | .int i :: .ref a :: r => (match h.1[a]? with
    | some (.inl (.array .float, n, rs)) => .inr (.inl (vp_in i n, nx, ls, xrv rs[i.toNatClampNeg]? :: r, h))
    | _ => xno (nx, ls, st, h))
  | _ => xno (nx, ls, st, h)
def xastI (nx : Nat) (ls : xL) (st : List Value) (h : xH) : xO := match st with
  | .int x :: .int i :: .ref a :: r => (match h.1[a]? with
    | some (.inl (.int, n, _)) => .inr (.inl (vp_in i n, nx, ls, r, h.1, x2 h.2.1 a i.toNatClampNeg x, h.2.2))
    | _ => xno (nx, ls, st, h))
  | _ => xno (nx, ls, st, h)
def xastB (nx : Nat) (ls : xL) (st : List Value) (h : xH) : xO := match st with
  | .int x :: .int i :: .ref a :: r => (match h.1[a]? with
    | some (.inl (.byte, n, _)) => .inr (.inl (vp_in i n, nx, ls, r, h.1, x2 h.2.1 a i.toNatClampNeg x.toInt8.toInt32, h.2.2))
    | _ => xno (nx, ls, st, h))
  | _ => xno (nx, ls, st, h)
def xastL (nx : Nat) (ls : xL) (st : List Value) (h : xH) : xO := match st with
  | .long x :: .int i :: .ref a :: r => (match h.1[a]? with
    | some (.inl (.long, n, _)) => .inr (.inl (vp_in i n, nx, ls, r, h.1, h.2.1, x2 h.2.2.1 a i.toNatClampNeg x, h.2.2.2))
    | _ => xno (nx, ls, st, h))
  | _ => xno (nx, ls, st, h)
def xastF (nx : Nat) (ls : xL) (st : List Value) (h : xH) : xO := match st with
  | .float x :: .int i :: .ref a :: r => (match h.1[a]? with
    | some (.inl (.float, n, _)) => .inr (.inl (vp_in i n, nx, ls, r, h.1, h.2.1, h.2.2.1, x2 h.2.2.2 a i.toNatClampNeg x))
    | _ => xno (nx, ls, st, h))
  | _ => xno (nx, ls, st, h)
def xaln (nx : Nat) (ls : xL) (st : List Value) (h : xH) : xO := match st with
  | .ref a :: r => (match h.1[a]? with
    | some (.inl (_, n, _)) => .inl (nx, ls, .int (Int32.ofNat n) :: r, h)
    | _ => xno (nx, ls, st, h))
  | _ => xno (nx, ls, st, h)
def xclr (d : xD) (q : Nat) : xD := (x0 d.1 q 0, x0 d.2.1 q 0, x0 d.2.2 q 0)
def xnew (E : xE) (nx : Nat) (tg : List Nat) (ls : xL) (st : List Value) (h : xH) : xO := match tg with
  | [ci] => .inl (nx, ls, .ref h.1.length :: st, h.1 ++ [.inr (ci, (E.2.1 ci).map fun _ => none)], xclr h.2 h.1.length)
  | _ => xno (nx, ls, st, h)
def xoka : FieldType → Bool
  | .int => true | .byte => true | .long => true | .float => true
  | _ => false
def xnar (ty : FieldType) (nx : Nat) (ls : xL) (st : List Value) (h : xH) : xO := match st with
  | .int n :: r => (bif xoka ty then .inr (.inl (¬ n < 0 ∧ n.toNatClampNeg ≤ 1000000, nx, ls, .ref h.1.length :: r, h.1 ++ [.inl (ty, n.toNatClampNeg, [])], xclr h.2 h.1.length)) else xno (nx, ls, st, h))
  | _ => xno (nx, ls, st, h)
def xty : ArrayType → FieldType
  | .boolean => .boolean | .char => .char | .float => .float | .double => .double | .byte => .byte | .short => .short | .int => .int | .long => .long
/-- new T[2][n] -/
def xmul (nx : Nat) (ls : xL) (st : List Value) (h : xH) : xO := match st with
  | .int n :: .int k :: r => .inr (.inl (k = 2 ∧ ¬ n < 0 ∧ n.toNatClampNeg ≤ 1000000, nx, ls, .ref h.1.length :: r, h.1 ++ [.inl (.array .float, 2, [some (h.1.length + 1), some (h.1.length + 2)]), .inl (.float, n.toNatClampNeg, []), .inl (.float, n.toNatClampNeg, [])], xclr (xclr (xclr h.2 h.1.length) (h.1.length + 1)) (h.1.length + 2)))
  | _ => xno (nx, ls, st, h)
/-- calls: [method, parameters] static; [method, parameters, class] of an object; [] of an object: Object(); [0], [1]: length and charAt of a text; [2], [3]: max and min -/
def xcl (E : xE) (nx : Nat) (ls : xL) (st : List Value) (h : xH) (y n : Nat) : xO := match xpop n st [] with
  | some (av, r) => (bif Nat.ble (xcat r) 8 && Nat.ble (xflat av).length (E.1 y).2.2.1 then .inr (.inr (.inr (.inl (y, av, nx, ls, r, h)))) else xno (nx, ls, st, h))
  | none => xno (nx, ls, st, h)
def xis (E : xE) (ci : Nat) (av : List Value) (h : xH) : Bool := match av with
  | .ref b :: _ => (match h.1[b]? with
    | some (.inr (c2, _)) => Nat.beq c2 ci
    | _ => false)
  | _ => false
def xclv (E : xE) (nx : Nat) (ls : xL) (st : List Value) (h : xH) (y n ci : Nat) : xO := match xpop (n + 1) st [] with
  | some (av, r) => (bif Nat.ble (xcat r) 8 && Nat.ble (xflat av).length (E.1 y).2.2.1 && xis E ci av h then .inr (.inr (.inr (.inl (y, av, nx, ls, r, h)))) else xno (nx, ls, st, h))
  | none => xno (nx, ls, st, h)
def xmax (nx : Nat) (ls : xL) (st : List Value) (h : xH) : xO := match st with
  | .int y :: .int x :: r => (bif Nat.ble (xcat r) 8 then .inl (nx, ls, .int (if x < y then y else x) :: r, h) else xno (nx, ls, st, h))
  | _ => xno (nx, ls, st, h)
def xmin (nx : Nat) (ls : xL) (st : List Value) (h : xH) : xO := match st with
  | .int y :: .int x :: r => (bif Nat.ble (xcat r) 8 then .inl (nx, ls, .int (if y < x then y else x) :: r, h) else xno (nx, ls, st, h))
  | _ => xno (nx, ls, st, h)
def xivs (E : xE) (nx : Nat) (tg : List Nat) (ls : xL) (st : List Value) (h : xH) : xO := match tg with
  | [y, n] => xcl E nx ls st h y n
  | [2] => xmax nx ls st h
  | [3] => xmin nx ls st h
  | _ => xno (nx, ls, st, h)
def xtl (E : xE) (nx : Nat) (ls : xL) (st : List Value) (h : xH) : xO := match st with
  | .ref a :: r => (bif Nat.ble xt0 a && Nat.ble (xcat r) 8 then .inl (nx, ls, .int (nI (E.2.2.1 (a - xt0))) :: r, h) else xno (nx, ls, st, h))
  | _ => xno (nx, ls, st, h)
def xtc (E : xE) (nx : Nat) (ls : xL) (st : List Value) (h : xH) : xO := match st with
  | .int i :: .ref a :: r => (bif Nat.ble xt0 a && Nat.ble (xcat r) 8 then .inr (.inl (vp_in i (E.2.2.1 (a - xt0)), nx, ls, .int (E.2.2.2 (a - xt0) i.toNatClampNeg) :: r, h)) else xno (nx, ls, st, h))
  | _ => xno (nx, ls, st, h)
def xivv (E : xE) (nx : Nat) (tg : List Nat) (ls : xL) (st : List Value) (h : xH) : xO := match tg with
  | [y, n, ci] => xclv E nx ls st h y n ci
  | [0] => xtl E nx ls st h
  | [1] => xtc E nx ls st h
  | _ => xno (nx, ls, st, h)
def xobj (nx : Nat) (ls : xL) (st : List Value) (h : xH) : xO := match st with
  | .ref _ :: r => (bif Nat.ble (xcat r) 8 then .inl (nx, ls, r, h) else xno (nx, ls, st, h))
  | _ => xno (nx, ls, st, h)
def xivi (E : xE) (nx : Nat) (tg : List Nat) (ls : xL) (st : List Value) (h : xH) : xO := match tg with
  | [y, n, ci] => xclv E nx ls st h y n ci
  | [] => xobj nx ls st h
  | _ => xno (nx, ls, st, h)
def xswt (lo : Int) (nx t : Nat) (ts : List Nat) (ls : xL) (st : List Value) (h : xH) : xO := match st with
  | .int x :: r => .inr (.inr (.inl (xsw ls r h x lo ts, t, ls, r, h)))
  | _ => xno (nx, ls, st, h)
/-- ends -/
def xrei (M : xM) (st : List Value) (h : xH) : xO := match M.2.2.2.1, st with
  | some .int, [.int v] => .inr (.inr (.inr (.inr (True, some (.int v), h))))
  | some .boolean, [.int v] => .inr (.inr (.inr (.inr (v &&& 1 = v, some (.int v), h))))
  | _, _ => xno (0, [], st, h)
def xrel (M : xM) (st : List Value) (h : xH) : xO := match M.2.2.2.1, st with
  | some .long, [.long v] => .inr (.inr (.inr (.inr (True, some (.long v), h))))
  | _, _ => xno (0, [], st, h)
def xref (M : xM) (st : List Value) (h : xH) : xO := match M.2.2.2.1, st with
  | some .float, [.float v] => .inr (.inr (.inr (.inr (True, some (.float v), h))))
  | _, _ => xno (0, [], st, h)
def xrea (M : xM) (st : List Value) (h : xH) : xO := match M.2.2.2.1, st with
  | some (.object _), [.ref v] => .inr (.inr (.inr (.inr (True, some (.ref v), h))))
  | some (.array _), [.ref v] => .inr (.inr (.inr (.inr (True, some (.ref v), h))))
  | some (.object _), [.null] => .inr (.inr (.inr (.inr (True, some .null, h))))
  | some (.array _), [.null] => .inr (.inr (.inr (.inr (True, some .null, h))))
  | _, _ => xno (0, [], st, h)
def xrev (M : xM) (st : List Value) (h : xH) : xO := match M.2.2.2.1, st with
  | none, [] => .inr (.inr (.inr (.inr (True, none, h))))
  | _, _ => xno (0, [], st, h)
/-- the stack -/
def xdup (nx : Nat) (ls : xL) (st : List Value) (h : xH) : xO := match st with
  | v :: r => (bif Nat.beq v.category 1 then .inl (nx, ls, v :: v :: r, h) else xno (nx, ls, st, h))
  | _ => xno (nx, ls, st, h)
def xpo (nx : Nat) (ls : xL) (st : List Value) (h : xH) : xO := match st with
  | v :: r => (bif Nat.beq v.category 1 then .inl (nx, ls, r, h) else xno (nx, ls, st, h))
  | _ => xno (nx, ls, st, h)
def xdx1 (nx : Nat) (ls : xL) (st : List Value) (h : xH) : xO := match st with
  | v :: w :: r => (bif Nat.beq v.category 1 && Nat.beq w.category 1 then .inl (nx, ls, v :: w :: v :: r, h) else xno (nx, ls, st, h))
  | _ => xno (nx, ls, st, h)
def xdx2 (nx : Nat) (ls : xL) (st : List Value) (h : xH) : xO := match st with
  | v :: w :: z :: r => (bif Nat.beq v.category 1 && Nat.beq w.category 1 && Nat.beq z.category 1 then .inl (nx, ls, v :: w :: z :: v :: r, h) else xno (nx, ls, st, h))
  | _ => xno (nx, ls, st, h)
def xd2 (nx : Nat) (ls : xL) (st : List Value) (h : xH) : xO := match st with
  | v :: w :: r => (bif Nat.beq v.category 1 && Nat.beq w.category 1 then .inl (nx, ls, v :: w :: v :: w :: r, h) else bif Nat.beq v.category 2 then .inl (nx, ls, v :: v :: w :: r, h) else xno (nx, ls, st, h))
  | [v] => (bif Nat.beq v.category 2 then .inl (nx, ls, [v, v], h) else xno (nx, ls, st, h))
  | _ => xno (nx, ls, st, h)
def xd2x1 (nx : Nat) (ls : xL) (st : List Value) (h : xH) : xO := match st with
  | v :: w :: r => (bif Nat.beq v.category 2 && Nat.beq w.category 1 then .inl (nx, ls, v :: w :: v :: r, h) else xno (nx, ls, st, h))
  | _ => xno (nx, ls, st, h)
end
section
/-- one instruction -/
def xins (E : xE) (M : xM) (i : Instr) (nx : Nat) (tg : List Nat) (v : Value) (ls : xL) (st : List Value) (h : xH) : xO := match i with
  | .iconst _ => .inl (nx, ls, v :: st, h)
  | .bipush _ => .inl (nx, ls, v :: st, h)
  | .sipush _ => .inl (nx, ls, v :: st, h)
  | .lconst _ => .inl (nx, ls, v :: st, h)
  | .fconst _ => .inl (nx, ls, v :: st, h)
  | .ldc _ => .inl (nx, ls, v :: st, h)
  | .ldc_w _ => .inl (nx, ls, v :: st, h)
  | .ldc2_w _ => .inl (nx, ls, v :: st, h)
  | .aconst_null => .inl (nx, ls, .null :: st, h)
  | .iload k => xloi k nx ls st h
  | .iload_n k => xloi k.val nx ls st h
  | .lload k => xlol k nx ls st h
  | .lload_n k => xlol k.val nx ls st h
  | .fload k => xlof k nx ls st h
  | .fload_n k => xlof k.val nx ls st h
  | .aload k => xloa k nx ls st h
  | .aload_n k => xloa k.val nx ls st h
  | .istore k => xsti k nx ls st h
  | .istore_n k => xsti k.val nx ls st h
  | .lstore k => xstl k nx ls st h
  | .lstore_n k => xstl k.val nx ls st h
  | .fstore k => xstf k nx ls st h
  | .fstore_n k => xstf k.val nx ls st h
  | .astore k => xsta k nx ls st h
  | .astore_n k => xsta k.val nx ls st h
  | .iinc k _ => xinc k v nx ls st h
  | .iadd => xii (fun x y => x + y) nx ls st h
  | .isub => xii (fun x y => x - y) nx ls st h
  | .imul => xii (fun x y => x * y) nx ls st h
  | .iand => xii (fun x y => x &&& y) nx ls st h
  | .ior => xii (fun x y => x ||| y) nx ls st h
  | .ixor => xii (fun x y => x ^^^ y) nx ls st h
  | .idiv => xiiD (fun x y => x / y) nx ls st h
  | .irem => xiiD (fun x y => x - x / y * y) nx ls st h
  | .ineg => xi (fun x => .int (-x)) nx ls st h
  | .ishl => xii (fun x y => x <<< (y &&& 31)) nx ls st h
  | .ishr => xii (fun x y => x >>> (y &&& 31)) nx ls st h
  | .iushr => xii (fun x y => (x.toUInt32 >>> (y.toUInt32 &&& Int32.toUInt32 31)).toInt32) nx ls st h
  | .i2l => xi (fun x => .long x.toInt64) nx ls st h
  | .i2b => xi (fun x => .int x.toInt8.toInt32) nx ls st h
  | .i2c => xi (fun x => .int (x.toUInt32 % 65536).toInt32) nx ls st h
  | .i2s => xi (fun x => .int x.toInt16.toInt32) nx ls st h
  | .i2f => xi (fun x => .float (FP.i2f x)) nx ls st h
  | .ladd => xll (fun x y => .long (x + y)) nx ls st h
  | .lsub => xll (fun x y => .long (x - y)) nx ls st h
  | .lmul => xll (fun x y => .long (x * y)) nx ls st h
  | .land => xll (fun x y => .long (x &&& y)) nx ls st h
  | .lor => xll (fun x y => .long (x ||| y)) nx ls st h
  | .lxor => xll (fun x y => .long (x ^^^ y)) nx ls st h
  | .lcmp => xll (fun x y => .int (lg_cmp x y)) nx ls st h
  | .lneg => xl (fun x => .long (-x)) nx ls st h
  | .lshl => xli (fun x y => x <<< (y.toInt64 &&& 63)) nx ls st h
  | .lshr => xli (fun x y => x >>> (y.toInt64 &&& 63)) nx ls st h
  | .lushr => xli (fun x y => (x.toUInt64 >>> (y.toInt64.toUInt64 &&& Int64.toUInt64 63)).toInt64) nx ls st h
  | .l2i => xl (fun x => .int x.toInt32) nx ls st h
  | .l2f => xl (fun x => .float (FP.l2f x)) nx ls st h
  | .fadd => xff FP.fadd nx ls st h
  | .fsub => xff FP.fsub nx ls st h
  | .fmul => xff FP.fmul nx ls st h
  | .fdiv => xff FP.fdiv nx ls st h
  | .fneg => xf (fun x => .float (FP.fneg x)) nx ls st h
  | .f2i => xf (fun x => .int (FP.f2i x)) nx ls st h
  | .fcmp op => xfc op nx ls st h
  | .dup => xdup nx ls st h
  | .dup_x1 => xdx1 nx ls st h
  | .dup_x2 => xdx2 nx ls st h
  | .dup2 => xd2 nx ls st h
  | .dup2_x1 => xd2x1 nx ls st h
  | .pop => xpo nx ls st h
  | .ifCond .eq _ => xb1 (fun x => x = 0) nx tg ls st h
  | .ifCond .ne _ => xb1 (fun x => ¬ x = 0) nx tg ls st h
  | .ifCond .lt _ => xb1 (fun x => x < 0) nx tg ls st h
  | .ifCond .ge _ => xb1 (fun x => 0 ≤ x) nx tg ls st h
  | .ifCond .gt _ => xb1 (fun x => 0 < x) nx tg ls st h
  | .ifCond .le _ => xb1 (fun x => x ≤ 0) nx tg ls st h
  | .if_icmp .eq _ => xb2 (fun x y => x = y) nx tg ls st h
  | .if_icmp .ne _ => xb2 (fun x y => ¬ x = y) nx tg ls st h
  | .if_icmp .lt _ => xb2 (fun x y => x < y) nx tg ls st h
  | .if_icmp .ge _ => xb2 (fun x y => y ≤ x) nx tg ls st h
  | .if_icmp .gt _ => xb2 (fun x y => y < x) nx tg ls st h
  | .if_icmp .le _ => xb2 (fun x y => x ≤ y) nx tg ls st h
  | .ifnull _ => (match tg with
    | [t] => xnul t nx ls st h
    | _ => xno (nx, ls, st, h))
  | .ifnonnull _ => (match tg with
    | [t] => xnul nx t ls st h
    | _ => xno (nx, ls, st, h))
  | .goto _ => (match tg with
    | [t] => .inl (t, ls, st, h)
    | _ => xno (nx, ls, st, h))
  | .tableswitch _ lo _ _ => (match tg with
    | t :: ts => xswt lo nx t ts ls st h
    | _ => xno (nx, ls, st, h))
  | .getfield _ => xgf E nx tg ls st h
  | .putfield _ => xpf E nx tg ls st h
  | .iaload => xaldI nx ls st h
  | .baload => xaldB nx ls st h
  | .laload => xaldL nx ls st h
  | .faload => xaldF nx ls st h
  | .aaload => xaldA nx ls st h
  | .iastore => xastI nx ls st h
  | .bastore => xastB nx ls st h
  | .lastore => xastL nx ls st h
  | .fastore => xastF nx ls st h
  | .arraylength => xaln nx ls st h
  | .new _ => xnew E nx tg ls st h
  | .newarray a => xnar (xty a) nx ls st h
  | .multianewarray _ _ => xmul nx ls st h
  | .invokestatic _ => xivs E nx tg ls st h
  | .invokevirtual _ => xivv E nx tg ls st h
  | .invokespecial _ => xivi E nx tg ls st h
  | .ireturn => xrei M st h
  | .lreturn => xrel M st h
  | .freturn => xref M st h
  | .areturn => xrea M st h
  | .return_ => xrev M st h
  | _ => xno (nx, ls, st, h)
def xstep (E : xE) (M : xM) (f : xF) : xO := match M.2.2.2.2.2 f.1 with
  | none => xno f
  | some (i, nx, tg, v) => xins E M i nx tg v f.2.1 f.2.2.1 f.2.2.2
def xdl (rn : xF → Prop) : List (Prop × xF) → xF → Prop
  | [], f => rn f
  | (c, g) :: t, f => (c → rn g) ∧ (¬ c → xdl rn t f)
/-- what must hold ahead of an instruction: rc for a called method, rn for the next instruction -/
def xwo (E : xE) (rc : Nat → xM → xF → xP → Prop) (rn : xF → xP → Prop) (d : Nat) (Q : xP) (o : xO) : Prop := match o with
  | .inl g => rn g Q
  | .inr (.inl (C, g)) => C ∧ rn g Q
  | .inr (.inr (.inl (cs, g))) => xdl (fun g => rn g Q) cs g
  | .inr (.inr (.inr (.inl (y, av, pc, ls, st, h)))) => (match d with
    | 0 => False
    | d + 1 => rc d (E.1 y) (0, xent (E.1 y) av, [], h) (fun v h' => rn (pc, ls, v.toList ++ st, h') Q))
  | .inr (.inr (.inr (.inr (C, v, h)))) => C ∧ Q v h
def xwp (E : xE) (rc : Nat → xM → xF → xP → Prop) (rn : xF → xP → Prop) (d : Nat) (M : xM) (f : xF) (Q : xP) : Prop := xwo E rc rn d Q (xstep E M f)
def xr (E : xE) : Nat → Nat → xM → xF → xP → Prop
  | 0, _, _, _, _ => False
  | n + 1, d, M, f, Q => xwp E (xr E n) (xr E n d M) d M f Q
def XC (E : xE) (d : Nat) (M : xM) (f : xF) (Q : xP) : Prop := ∃ n, xr E n d M f Q
/-- a method, called with these values -/
def XM (E : xE) (d : Nat) (y : Nat) (av : List Value) (h : xH) (Q : xP) : Prop := XC E d (E.1 y) (0, xent (E.1 y) av, [], h) Q
def xin (n : Nat) : List Nat → Bool
  | [] => false
  | a :: t => bif Nat.beq n a then true else xin n t
/-- from here to the next cut -/
def xs (E : xE) (cuts : List Nat) : Nat → Nat → xM → xF → xP → Prop
  | 0, d, M, f, Q => XC E d M f Q
  | n + 1, d, M, f, Q => xwp E (XC E) (fun f' Q' => bif xin f'.1 cuts then XC E d M f' Q' else xs E cuts n d M f' Q') d M f Q
/-! laws -/
theorem xdl_mono {r1 r2 : xF → Prop} (h : ∀ f, r1 f → r2 f) : ∀ (cs : List (Prop × xF)) (g : xF), xdl r1 cs g → xdl r2 cs g
  | [], g, k => h g k
  | (_, _) :: t, g, k => ⟨fun c => h _ (k.1 c), fun c => xdl_mono h t g (k.2 c)⟩
theorem xwp_mono {E : xE} {rc rc' : Nat → xM → xF → xP → Prop} {rn rn' : xF → xP → Prop} {d : Nat} {M : xM} {f : xF} {Q Q' : xP}
    (hc : ∀ d M f (P P' : xP), (∀ v h, P v h → P' v h) → rc d M f P → rc' d M f P') (hn : ∀ f, rn f Q → rn' f Q') (hQ : ∀ v h, Q v h → Q' v h) (k : xwp E rc rn d M f Q) : xwp E rc' rn' d M f Q' := by
  unfold xwp xwo at k ⊢
  split at k
  · exact hn _ k
  · exact ⟨k.1, hn _ k.2⟩
  · exact xdl_mono (fun g => hn g) _ _ k
  · split at k
    · exact k.elim
    · exact hc _ _ _ _ _ (fun v h => hn _) k
  · exact ⟨k.1, hQ _ _ k.2⟩
theorem xr_Q {E : xE} : ∀ (n d : Nat) (M : xM) (f : xF) (Q Q' : xP), (∀ v h, Q v h → Q' v h) → xr E n d M f Q → xr E n d M f Q'
  | 0, _, _, _, _, _, _, k => k
  | n + 1, _, _, _, _, _, hQ, k => xwp_mono (fun d M f P P' h => xr_Q n d M f P P' h) (fun f => xr_Q n _ _ f _ _ hQ) hQ k
theorem xr_S {E : xE} : ∀ (n d : Nat) (M : xM) (f : xF) (Q : xP), xr E n d M f Q → xr E (n + 1) d M f Q
  | 0, _, _, _, _, k => k.elim
  | n + 1, d, M, f, Q, k => by
    refine xwp_mono (rc := xr E n) (rn := xr E n d M) (fun d M f P P' h k => xr_Q (n + 1) d M f P P' h (xr_S n d M f P k)) (fun f => xr_S n d M f Q) (fun _ _ h => h) k
theorem xr_le {E : xE} {n m d : Nat} {M : xM} {f : xF} {Q : xP} (hnm : n ≤ m) (k : xr E n d M f Q) : xr E m d M f Q := by
  induction hnm with
  | refl => exact k
  | step _ ih => exact xr_S _ _ _ _ _ ih
theorem XC.mono {E : xE} {d : Nat} {M : xM} {f : xF} {Q Q' : xP} (h : ∀ v h, Q v h → Q' v h) (k : XC E d M f Q) : XC E d M f Q' := by
  obtain ⟨n, k⟩ := k
  exact ⟨n, xr_Q n _ _ _ _ _ h k⟩
theorem xdl_det {rn : xF → xP → Prop} {Q : xP} (H : ∀ f, rn f Q → ∃ v h, Q v h ∧ rn f (fun v' h' => v' = v ∧ h' = h)) : ∀ (cs : List (Prop × xF)) (g : xF), xdl (fun g => rn g Q) cs g → ∃ v h, Q v h ∧ xdl (fun g => rn g (fun v' h' => v' = v ∧ h' = h)) cs g
  | [], g, k => H g k
  | (c, g1) :: t, g, k => by
    by_cases hc : c
    · obtain ⟨v, h, q, k2⟩ := H g1 (k.1 hc)
      exact ⟨v, h, q, fun _ => k2, fun z => absurd hc z⟩
    · obtain ⟨v, h, q, k2⟩ := xdl_det H t g (k.2 hc)
      exact ⟨v, h, q, fun z => absurd z hc, fun _ => k2⟩
theorem xdl_ex {E : xE} {d : Nat} {M : xM} {Q : xP} : ∀ (cs : List (Prop × xF)) (g : xF), xdl (fun g => XC E d M g Q) cs g → ∃ n, xdl (fun g => xr E n d M g Q) cs g
  | [], g, k => k
  | (c, g1) :: t, g, k => by
    by_cases hc : c
    · obtain ⟨n, k⟩ := k.1 hc
      exact ⟨n, fun _ => k, fun z => absurd hc z⟩
    · obtain ⟨n, k⟩ := xdl_ex t g (k.2 hc)
      exact ⟨n, fun z => absurd z hc, fun _ => k⟩
/-- there is one end -/
theorem xr_det {E : xE} : ∀ (n d : Nat) (M : xM) (f : xF) (Q : xP), xr E n d M f Q → ∃ v h, Q v h ∧ xr E n d M f (fun v' h' => v' = v ∧ h' = h)
  | 0, _, _, _, _, k => k.elim
  | n + 1, d, M, f, Q, k => by
    have k1 : xwp E (xr E n) (xr E n d M) d M f Q := k
    show ∃ v h, Q v h ∧ xwp E (xr E n) (xr E n d M) d M f (fun v' h' => v' = v ∧ h' = h)
    unfold xwp xwo at k1 ⊢
    split at k1
    · exact xr_det n _ _ _ _ k1
    · obtain ⟨c, k1⟩ := k1
      obtain ⟨v, h, q, k2⟩ := xr_det n _ _ _ _ k1
      exact ⟨v, h, q, c, k2⟩
    · exact xdl_det (rn := xr E n d M) (fun f k => xr_det n _ _ _ _ k) _ _ k1
    · split at k1
      · exact k1.elim
      · obtain ⟨v, h, q, k2⟩ := xr_det n _ _ _ _ k1
        obtain ⟨v2, h2, q2, k3⟩ := xr_det n _ _ _ _ q
        exact ⟨v2, h2, q2, xr_Q n _ _ _ _ _ (fun v' h' e => by obtain ⟨rfl, rfl⟩ := e; exact k3) k2⟩
    · exact ⟨_, _, k1.2, k1.1, rfl, rfl⟩
theorem XC.step {E : xE} {d : Nat} {M : xM} {f : xF} {Q : xP} (k : xwp E (XC E) (XC E d M) d M f Q) : XC E d M f Q := by
  suffices h : ∃ n, xwp E (xr E n) (xr E n d M) d M f Q by
    obtain ⟨n, h⟩ := h
    exact ⟨n + 1, h⟩
  unfold xwp xwo at k ⊢
  split at k
  · obtain ⟨n, k⟩ := k
    exact ⟨n, k⟩
  · obtain ⟨c, n, k⟩ := k
    exact ⟨n, c, k⟩
  · exact xdl_ex _ _ k
  · split at k
    · exact k.elim
    · obtain ⟨n, k⟩ := k
      obtain ⟨v, h, ⟨m, q⟩, k2⟩ := xr_det n _ _ _ _ k
      refine ⟨max n m, xr_le (Nat.le_max_left n m) (xr_Q n _ _ _ _ _ (fun v' h' e => ?_) k2)⟩
      obtain ⟨rfl, rfl⟩ := e
      exact xr_le (Nat.le_max_right n m) q
  · exact ⟨0, k⟩
theorem XC.block {E : xE} (cuts : List Nat) : ∀ (n : Nat) {d : Nat} {M : xM} {f : xF} {Q : xP}, xs E cuts n d M f Q → XC E d M f Q
  | 0, _, _, _, _, k => k
  | n + 1, d, M, f, Q, k => by
    refine XC.step (xwp_mono (rc := XC E) (rn := fun f' Q' => bif xin f'.1 cuts then XC E d M f' Q' else xs E cuts n d M f' Q') (fun d M f P P' h k => k.mono h) (fun f' k2 => ?_) (fun _ _ h => h) k)
    cases hx : xin f'.1 cuts with
    | true => rw [hx] at k2; exact k2
    | false => rw [hx] at k2; exact XC.block cuts n k2
theorem xr_d {E : xE} : ∀ (n d : Nat) (M : xM) (f : xF) (Q : xP), xr E n d M f Q → xr E n (d + 1) M f Q
  | 0, _, _, _, _, k => k
  | n + 1, d, M, f, Q, k => by
    have k1 : xwp E (xr E n) (xr E n d M) d M f Q := k
    show xwp E (xr E n) (xr E n (d + 1) M) (d + 1) M f Q
    unfold xwp xwo at k1 ⊢
    split at k1
    · exact xr_d n _ _ _ _ k1
    · exact ⟨k1.1, xr_d n _ _ _ _ k1.2⟩
    · exact xdl_mono (fun g => xr_d n _ _ _ _) _ _ k1
    · split at k1
      · exact k1.elim
      · exact xr_Q n _ _ _ _ _ (fun v h => xr_d n _ _ _ _) (xr_d n _ _ _ _ k1)
    · exact k1
theorem XC.le {E : xE} {d d' : Nat} {M : xM} {f : xF} {Q : xP} (hd : d ≤ d') (k : XC E d M f Q) : XC E d' M f Q := by
  induction hd with
  | refl => exact k
  | step _ ih =>
    obtain ⟨n, ih⟩ := ih
    exact ⟨n, xr_d n _ _ _ _ ih⟩
theorem XM.le {E : xE} {d d' : Nat} {y : Nat} {av : List Value} {h : xH} {Q : xP} (hd : d ≤ d') (k : XM E d y av h Q) : XM E d' y av h Q := XC.le hd k
theorem XM.mono {E : xE} {d : Nat} {y : Nat} {av : List Value} {h : xH} {Q Q' : xP} (hq : ∀ v h, Q v h → Q' v h) (k : XM E d y av h Q) : XM E d y av h Q' := XC.mono hq k
theorem XM.det {E : xE} {d : Nat} {y : Nat} {av : List Value} {h : xH} {Q : xP} (k : XM E d y av h Q) : ∃ v h', Q v h' ∧ XM E d y av h (fun v2 h2 => v2 = v ∧ h2 = h') := by
  obtain ⟨n, k⟩ := k
  obtain ⟨v, h2, q, k2⟩ := xr_det n _ _ _ _ k
  exact ⟨v, h2, q, n, k2⟩
end
section
/-! the machine on paper and the machine: how their states belong together -/
/-- the address of a cell -/
def xa (ad : Nat → Nat) (ws : va_W) (k : Nat) : Option Nat := bif Nat.ble xt0 k then some (ad (k - xt0)) else (ws[k]?).map Prod.fst
def xmon (r1 r2 : Nat → Option Nat) : Prop := ∀ k a, r1 k = some a → r2 k = some a
def xv (r : Nat → Option Nat) (v w : Value) : Prop := match v with
  | .ref k => ∃ a, r k = some a ∧ w = .ref a
  | .int x => w = .int x
  | .long x => w = .long x
  | .float x => w = .float x
  | .double x => w = .double x
  | .null => w = .null
  | .retAddr _ => False
def xvo (r : Nat → Option Nat) (v w : Option Value) : Prop := match v with
  | none => w = none
  | some v => ∃ u, w = some u ∧ xv r v u
def xva (r : Nat → Option Nat) : List Value → List Value → Prop
  | [], w => w = []
  | v :: vs, w => ∃ u us, w = u :: us ∧ xv r v u ∧ xva r vs us
def xqr (r : Nat → Option Nat) (o : Option (Option Nat)) (x : Option Nat) : Prop := match o with
  | some (some k) => ∃ a, r k = some a ∧ x = some a
  | _ => x = none
def xce (E : xE) (cA : FieldType → ClassId) (r : Nat → Option Nat) (t : xS) (i : Nat) (d : xD) (e : va_E) : Prop := match t with
  | .inl (.int, n, _) => e = .inl (cA .int, n, .inl (d.1 i))
  | .inl (.byte, n, _) => e = .inl (cA .byte, n, .inl (d.1 i))
  | .inl (.long, n, _) => e = .inl (cA .long, n, .inr (.inl (d.2.1 i)))
  | .inl (.float, n, _) => e = .inl (cA .float, n, .inr (.inr (.inl (d.2.2 i))))
  | .inl (.array .float, n, rs) => ∃ f : Nat → Option Nat, e = .inl (cA (.array .float), n, .inr (.inr (.inr (.inr f)))) ∧ ∀ j, j < n → xqr r rs[j]? (f j)
  | .inl _ => False
  | .inr (ci, rf) => ∃ fs : List Value, e = .inr (ci, fs) ∧ fs.length = (E.2.1 ci).length ∧ rf.length = (E.2.1 ci).length ∧ ∀ (k : Nat) (ty : FieldType), (E.2.1 ci)[k]? = some ty → ∃ v, fs[k]? = some v ∧ xv r (xget ty k i rf d) v
def xW (E : xE) (ad : Nat → Nat) (cA : FieldType → ClassId) (h : xH) (ws : va_W) : Prop := ws.length = h.1.length ∧ h.1.length ≤ xt0 ∧ ∀ (i : Nat) (t : xS), h.1[i]? = some t → ∃ a e, ws[i]? = some (a, e) ∧ xce E cA (xa ad ws) t i h.2 e
def xtys (cA : FieldType → ClassId) : List (ClassId × FieldType) := [(cA .int, .int), (cA .byte, .byte), (cA .long, .long), (cA .float, .float), (cA (.array .float), .array .float)]
def xls (r : Nat → Option Nat) (l : xL) (ls : Array Slot) (nL : Nat) : Prop := ls.size = nL ∧ l.length = nL ∧ lv_wf ls ∧ ∀ (i : Nat) (v : Value), xld l i = some v → ∃ w, ls[i]? = some (.val w) ∧ xv r v w
def xs1 (E : xE) (t : xS) : Nat := match t with
  | .inl (_, n, _) => n
  | .inr (ci, _) => (E.2.1 ci).length
def xsz (E : xE) (sh : List xS) : Nat := (sh.map (xs1 E)).sum
def xroom (d mc ms : Nat) : Room := { frames := d + 8, cells := mc, slots := ms, locals := 60 * d + 400 }
theorem xv_mono {r1 r2 : Nat → Option Nat} (h : xmon r1 r2) {v w : Value} (k : xv r1 v w) : xv r2 v w := by
  cases v with
  | ref q => obtain ⟨a, h1, h2⟩ := k; exact ⟨a, h _ _ h1, h2⟩
  | _ => exact k
theorem xvo_mono {r1 r2 : Nat → Option Nat} (h : xmon r1 r2) {v w : Option Value} (k : xvo r1 v w) : xvo r2 v w := by
  cases v with
  | none => exact k
  | some q => obtain ⟨a, h1, h2⟩ := k; exact ⟨a, h1, xv_mono h h2⟩
theorem xva_mono {r1 r2 : Nat → Option Nat} (h : xmon r1 r2) : ∀ {v w : List Value}, xva r1 v w → xva r2 v w
  | [], _, k => k
  | _ :: _, _, ⟨u, us, e, h1, h2⟩ => ⟨u, us, e, xv_mono h h1, xva_mono h h2⟩
theorem xls_mono {r1 r2 : Nat → Option Nat} (h : xmon r1 r2) {l : xL} {ls : Array Slot} {nL : Nat} (k : xls r1 l ls nL) : xls r2 l ls nL :=
  ⟨k.1, k.2.1, k.2.2.1, fun i v hv => by obtain ⟨w, h1, h2⟩ := k.2.2.2 i v hv; exact ⟨w, h1, xv_mono h h2⟩⟩
theorem xce_mono {E : xE} {cA : FieldType → ClassId} {r1 r2 : Nat → Option Nat} (h : xmon r1 r2) {t : xS} {i : Nat} {d : xD} {e : va_E} (k : xce E cA r1 t i d e) : xce E cA r2 t i d e := by
  unfold xce at k ⊢
  split at k
  · exact k
  · exact k
  · exact k
  · exact k
  · obtain ⟨f, h1, h2⟩ := k
    refine ⟨f, h1, fun j hj => ?_⟩
    have h3 := h2 j hj
    unfold xqr at h3 ⊢
    split at h3
    · obtain ⟨a, e1, e2⟩ := h3; exact ⟨a, h _ _ e1, e2⟩
    · exact h3
  · exact k
  · obtain ⟨fs, h1, h2, h4, h3⟩ := k
    refine ⟨fs, h1, h2, h4, fun j ty hj => ?_⟩
    obtain ⟨v, e1, e2⟩ := h3 j ty hj
    exact ⟨v, e1, xv_mono h e2⟩
theorem xv_cat {r : Nat → Option Nat} {v w : Value} (k : xv r v w) : w.category = v.category := by
  cases v with
  | ref q => obtain ⟨a, h1, rfl⟩ := k; rfl
  | retAddr _ => exact k.elim
  | _ => rw [show w = _ from k]
theorem xva_cat {r : Nat → Option Nat} : ∀ {v w : List Value}, xva r v w → xcat w = xcat v
  | [], _, k => by rw [show _ = [] from k]
  | v :: vs, _, ⟨u, us, e, h1, h2⟩ => by
    have := xva_cat h2
    rw [e]
    simp only [xcat, List.map_cons, List.sum_cons] at this ⊢
    rw [this, xv_cat h1]
theorem xmon_app (ad : Nat → Nat) (ws : va_W) (q : List (Nat × va_E)) : xmon (xa ad ws) (xa ad (ws ++ q)) := by
  intro k a h
  unfold xa at h ⊢
  cases hb : Nat.ble xt0 k with
  | true => rw [hb] at h; exact h
  | false =>
    rw [hb] at h
    simp only [cond_false] at h ⊢
    cases hk : ws[k]? with
    | none => rw [hk] at h; cases h
    | some x =>
      rw [hk] at h
      rw [List.getElem?_append_left (List.getElem?_eq_some_iff.mp hk).1, hk]
      exact h
theorem xa_set (ad : Nat → Nat) (ws : va_W) {q0 a : Nat} {e0 e : va_E} (h : ws[q0]? = some (a, e0)) : xa ad (ws.set q0 (a, e)) = xa ad ws := by
  funext k
  unfold xa
  congr 1
  by_cases hk : k = q0
  · subst hk
    rw [List.getElem?_set_self (List.getElem?_eq_some_iff.mp h).1, h]
    rfl
  · rw [List.getElem?_set_ne (Ne.symm hk)]
theorem xa_at {ad : Nat → Nat} {ws : va_W} {k a : Nat} (hk : k < xt0) (h : xa ad ws k = some a) : ∃ e, ws[k]? = some (a, e) := by
  unfold xa at h
  have hb : Nat.ble xt0 k = false := by
    cases hb : Nat.ble xt0 k with
    | false => rfl
    | true => exact absurd (Nat.le_of_ble_eq_true hb) (by omega)
  rw [hb] at h
  simp only [cond_false] at h
  cases hw : ws[k]? with
  | none => rw [hw] at h; cases h
  | some x => rw [hw] at h; obtain ⟨a1, e1⟩ := x; cases h; exact ⟨e1, rfl⟩
theorem xa_of {ad : Nat → Nat} {ws : va_W} {k a : Nat} {e : va_E} (hk : k < xt0) (h : ws[k]? = some (a, e)) : xa ad ws k = some a := by
  unfold xa
  have hb : Nat.ble xt0 k = false := by
    cases hb : Nat.ble xt0 k with
    | false => rfl
    | true => exact absurd (Nat.le_of_ble_eq_true hb) (by omega)
  rw [hb, h]
  rfl
/-- a cell of the world -/
theorem xW_at {E : xE} {ad : Nat → Nat} {cA : FieldType → ClassId} {h : xH} {ws : va_W} (k : xW E ad cA h ws) {i a : Nat} {t : xS} (hi : h.1[i]? = some t) (ha : xa ad ws i = some a) : ∃ e, ws[i]? = some (a, e) ∧ xce E cA (xa ad ws) t i h.2 e := by
  obtain ⟨a2, e, h1, h2⟩ := k.2.2 i t hi
  have hl : i < xt0 := Nat.lt_of_lt_of_le (List.getElem?_eq_some_iff.mp hi).1 k.2.1
  have := (xa_of (ad := ad) hl h1).symm.trans ha
  cases this
  exact ⟨e, h1, h2⟩
/-- the locals -/
def xall (ls : Array Slot) : List (Nat × Value) := (List.range ls.size).filterMap fun i => match (ls[i]? : Option Slot) with
  | some (Slot.val w) => some (i, w)
  | _ => none
theorem xall_mem {ls : Array Slot} {i : Nat} {w : Value} : (i, w) ∈ xall ls ↔ ls[i]? = some (.val w) := by
  unfold xall
  rw [List.mem_filterMap]
  constructor
  · rintro ⟨j, -, hj⟩
    split at hj
    · rename_i w2 h2
      cases hj
      exact h2
    · cases hj
  · intro h
    refine ⟨i, List.mem_range.mpr (Array.getElem?_eq_some_iff.mp h).1, ?_⟩
    rw [h]
theorem xls_has {r : Nat → Option Nat} {l : xL} {ls : Array Slot} {nL : Nat} (k : xls r l ls nL) : lv_has ls nL (xall ls) := ⟨k.1, k.2.2.1, fun q hq => xall_mem.mp hq⟩
theorem xld_set {l : xL} {i j : Nat} {o : Option Value} : xld (l.set i o) j = if j = i ∧ j < l.length then o else xld l j := by
  unfold xld
  by_cases h : j = i
  · subst h
    by_cases hl : j < l.length
    · rw [List.getElem?_set_self hl, if_pos ⟨rfl, hl⟩]
    · rw [if_neg (fun q => hl q.2), List.getElem?_eq_none (by rw [List.length_set]; omega), List.getElem?_eq_none (by omega)]
  · rw [if_neg (fun q => h q.1), List.getElem?_set_ne (Ne.symm h)]
theorem xkill_len (l : xL) (i : Nat) : (xkill l i).length = l.length := by
  unfold xkill
  split
  · rfl
  · split
    · cases hb : Nat.beq _ 2 <;> simp
    · rfl
/-- what is left of the locals when one of them is to be written -/
theorem xkill_ld {l : xL} {i j : Nat} {v : Value} (h : xld (xkill l i) j = some v) : xld l j = some v ∧ ¬ (j + 1 = i ∧ v.category = 2) := by
  unfold xkill at h
  split at h
  · exact ⟨h, fun q => by omega⟩
  · rename_i i0
    split at h
    · rename_i w hw
      cases hb : Nat.beq w.category 2 with
      | true =>
        rw [hb] at h
        simp only [cond_true] at h
        rw [xld_set] at h
        split at h
        · cases h
        · rename_i hn
          refine ⟨h, fun q => ?_⟩
          have : j = i0 := by omega
          subst this
          unfold xld at h
          split at h
          · rename_i o ho
            exact hn ⟨rfl, (List.getElem?_eq_some_iff.mp ho).1⟩
          · cases h
      | false =>
        rw [hb] at h
        simp only [cond_false] at h
        refine ⟨h, fun q => ?_⟩
        have : j = i0 := by omega
        subst this
        rw [hw] at h
        cases h
        have hq := q.2
        rw [hq] at hb
        cases hb
    · rename_i hw
      refine ⟨h, fun q => ?_⟩
      have : j = i0 := by omega
      subst this
      rw [hw] at h
      cases h
theorem xls_put {r : Nat → Option Nat} {l l' : xL} {ls ls' : Array Slot} {nL i : Nat} {v w : Value} (k : xls r l ls nL) (hp : xput l i v = some l') (hv : xv r v w) (h' : lv_has ls' nL ((i, w) :: (xall ls).filter (fun q => !(q.1 == i) && !(q.1 + 1 == i && q.2.category == 2)))) : xls r l' ls' nL ∧ i < nL := by
  unfold xput at hp
  split at hp
  · cases hp
  · rename_i o ho
    have hi : i < l.length := (List.getElem?_eq_some_iff.mp ho).1
    cases hp
    refine ⟨⟨h'.1, by rw [List.length_set, xkill_len]; exact k.2.1, h'.2.1, fun j u hj => ?_⟩, by rw [← k.2.1]; exact hi⟩
    rw [xld_set] at hj
    split at hj
    · rename_i hc
      cases hj
      rw [hc.1]
      exact ⟨w, h'.2.2 (i, w) List.mem_cons_self, hv⟩
    · rename_i hc
      have hji : ¬ j = i := fun q => hc ⟨q, by rw [xkill_len, q]; exact hi⟩
      obtain ⟨h1, h2⟩ := xkill_ld hj
      obtain ⟨z, e1, e2⟩ := k.2.2.2 j u h1
      refine ⟨z, h'.2.2 (j, z) (List.mem_cons_of_mem _ (List.mem_filter.mpr ⟨xall_mem.mpr e1, ?_⟩)), e2⟩
      have hcz := xv_cat e2
      simp only [Bool.and_eq_true, Bool.not_eq_true', beq_eq_false_iff_ne, ne_eq, Bool.and_eq_false_iff]
      refine ⟨hji, ?_⟩
      by_cases hz : j + 1 = i
      · exact Or.inr (fun q => h2 ⟨hz, hcz ▸ q⟩)
      · exact Or.inl hz
theorem xls_put2 {r : Nat → Option Nat} {l l' : xL} {ls ls' : Array Slot} {nL i : Nat} {v w : Value} (k : xls r l ls nL) (hp : xput2 l i v = some l') (hv : xv r v w) (h' : lv_has ls' nL ((i, w) :: (xall ls).filter (fun q => !(q.1 == i) && (!(q.1 == i + 1) && !(q.1 + 1 == i && q.2.category == 2))))) : xls r l' ls' nL := by
  unfold xput2 at hp
  split at hp
  · cases hp
  · rename_i o ho
    have hi : i + 1 < l.length := (List.getElem?_eq_some_iff.mp ho).1
    cases hp
    refine ⟨h'.1, by rw [List.length_set, List.length_set, xkill_len]; exact k.2.1, h'.2.1, fun j u hj => ?_⟩
    rw [xld_set] at hj
    split at hj
    · cases hj
    · rename_i hc0
      have hj1 : ¬ j = i + 1 := fun q => hc0 ⟨q, by rw [List.length_set, xkill_len, q]; exact hi⟩
      rw [xld_set] at hj
      split at hj
      · rename_i hc
        cases hj
        rw [hc.1]
        exact ⟨w, h'.2.2 (i, w) List.mem_cons_self, hv⟩
      · rename_i hc
        have hji : ¬ j = i := fun q => hc ⟨q, by rw [xkill_len, q]; omega⟩
        obtain ⟨h1, h2⟩ := xkill_ld hj
        obtain ⟨z, e1, e2⟩ := k.2.2.2 j u h1
        refine ⟨z, h'.2.2 (j, z) (List.mem_cons_of_mem _ (List.mem_filter.mpr ⟨xall_mem.mpr e1, ?_⟩)), e2⟩
        have hcz := xv_cat e2
        simp only [Bool.and_eq_true, Bool.not_eq_true', beq_eq_false_iff_ne, ne_eq, Bool.and_eq_false_iff]
        refine ⟨hji, hj1, ?_⟩
        by_cases hz : j + 1 = i
        · exact Or.inr (fun q => h2 ⟨hz, hcz ▸ q⟩)
        · exact Or.inl hz
theorem xput_lt {l l' : xL} {i : Nat} {v : Value} (hp : xput l i v = some l') : i < l.length := by
  unfold xput at hp
  split at hp
  · cases hp
  · rename_i o ho
    exact (List.getElem?_eq_some_iff.mp ho).1
theorem xput2_lt {l l' : xL} {i : Nat} {v : Value} (hp : xput2 l i v = some l') : i + 1 < l.length := by
  unfold xput2 at hp
  split at hp
  · cases hp
  · rename_i o ho
    exact (List.getElem?_eq_some_iff.mp ho).1
/-- the arguments of a call -/
theorem xpop_spec {r : Nat → Option Nat} : ∀ (n : Nat) (st acc av rest : List Value), xpop n st acc = some (av, rest) → ∃ as : List Value, av = as ++ acc ∧ as.length = n ∧ st = as.reverse ++ rest
  | 0, st, acc, av, rest, h => by cases h; exact ⟨[], rfl, rfl, rfl⟩
  | n + 1, [], acc, av, rest, h => by cases h
  | n + 1, v :: st, acc, av, rest, h => by
    obtain ⟨as, h1, h2, h3⟩ := xpop_spec (r := r) n st (v :: acc) av rest h
    exact ⟨as ++ [v], by rw [h1]; simp, by simp [h2], by rw [h3]; simp⟩
theorem xva_split {r : Nat → Option Nat} : ∀ {a b w : List Value}, xva r (a ++ b) w → ∃ wa wb, w = wa ++ wb ∧ xva r a wa ∧ xva r b wb
  | [], b, w, k => ⟨[], w, rfl, rfl, k⟩
  | v :: a, b, w, ⟨u, us, e, h1, h2⟩ => by
    obtain ⟨wa, wb, e2, h3, h4⟩ := xva_split h2
    exact ⟨u :: wa, wb, by rw [e, e2]; rfl, ⟨u, wa, rfl, h1, h3⟩, h4⟩
theorem xva_app {r : Nat → Option Nat} : ∀ {a b wa wb : List Value}, xva r a wa → xva r b wb → xva r (a ++ b) (wa ++ wb)
  | [], b, wa, wb, k, k2 => by rw [show wa = [] from k]; exact k2
  | v :: a, b, wa, wb, ⟨u, us, e, h1, h2⟩, k2 => by
    rw [e]
    exact ⟨u, us ++ wb, rfl, h1, xva_app h2 k2⟩
theorem xva_rev {r : Nat → Option Nat} : ∀ {a w : List Value}, xva r a w → xva r a.reverse w.reverse
  | [], w, k => by rw [show w = [] from k]; rfl
  | v :: a, w, ⟨u, us, e, h1, h2⟩ => by
    rw [e, List.reverse_cons, List.reverse_cons]
    exact xva_app (xva_rev h2) ⟨u, [], rfl, h1, rfl⟩
theorem xva_len {r : Nat → Option Nat} : ∀ {a w : List Value}, xva r a w → w.length = a.length
  | [], w, k => by rw [show w = [] from k]
  | v :: a, w, ⟨u, us, e, h1, h2⟩ => by rw [e, List.length_cons, List.length_cons, xva_len h2]
theorem xpad_len : ∀ (n : Nat) (l : xL), l.length ≤ n → (xpad n l).length = n
  | 0, l, h => by simpa [xpad] using h
  | n + 1, [], h => by simp [xpad, xpad_len n [] (Nat.zero_le n)]
  | n + 1, v :: l, h => by simp [xpad, xpad_len n l (by simpa using h)]
theorem xpad_ld : ∀ (n : Nat) (l : xL) (i : Nat) (v : Value), xld (xpad n l) i = some v → xld l i = some v
  | 0, l, i, v, h => h
  | n + 1, [], 0, v, h => by simp [xpad, xld] at h
  | n + 1, [], i + 1, v, h => by
    have : xld (xpad n []) i = some v := by simpa [xpad, xld] using h
    have := xpad_ld n [] i v this
    simp [xld] at this
  | n + 1, u :: l, 0, v, h => by simpa [xpad, xld] using h
  | n + 1, u :: l, i + 1, v, h => by
    have : xld (xpad n l) i = some v := by simpa [xpad, xld] using h
    simpa [xld] using xpad_ld n l i v this
theorem xflat_len : ∀ {av : List Value} {r : Nat → Option Nat} {w : List Value}, xva r av w → (xflat av).length = (lg_sl w).length
  | [], r, w, k => by rw [show w = [] from k]; rfl
  | v :: vs, r, w, ⟨u, us, e, h1, h2⟩ => by
    have ih := xflat_len h2
    have hc := xv_cat h1
    rw [e]
    simp only [lg_sl, List.flatMap_cons, List.length_append] at ih ⊢
    unfold xflat
    by_cases h : v.category = 2
    · rw [h, if_pos (hc.trans h)]
      simp [ih]
      omega
    · rw [if_neg (fun q => h (hc.symm.trans q))]
      have : Nat.beq v.category 2 = false := by
        cases hb : Nat.beq v.category 2 with
        | false => rfl
        | true => exact absurd (Nat.eq_of_beq_eq_true hb) h
      rw [this]
      simp [ih]
      omega
theorem xflat_ld : ∀ {av : List Value} {r : Nat → Option Nat} {w : List Value} (i0 : Nat) (i : Nat) (v : Value), xva r av w → xld (xflat av) i = some v → ∃ u, (i0 + i, u) ∈ lv_args i0 w ∧ xv r v u
  | [], r, w, i0, i, v, k, h => by simp [xflat, xld] at h
  | z :: vs, r, w, i0, i, v, ⟨u, us, e, h1, h2⟩, h => by
    have hc := xv_cat h1
    rw [e]
    unfold xflat at h
    by_cases hz : z.category = 2
    · rw [hz] at h
      have hu : u.category = 2 := hc.trans hz
      simp only [lv_args, hu, if_true]
      match i, h with
      | 0, h =>
        have : z = v := by simpa [xld] using h
        subst this
        exact ⟨u, List.mem_cons_self, h1⟩
      | 1, h => simp [xld] at h
      | i + 2, h =>
        have h3 : xld (xflat vs) i = some v := by simpa [xld] using h
        obtain ⟨x, e1, e2⟩ := xflat_ld (i0 + 2) i v h2 h3
        exact ⟨x, List.mem_cons_of_mem _ (by rw [show i0 + (i + 2) = i0 + 2 + i by omega]; exact e1), e2⟩
    · have hb : Nat.beq z.category 2 = false := by
        cases hb : Nat.beq z.category 2 with
        | false => rfl
        | true => exact absurd (Nat.eq_of_beq_eq_true hb) hz
      rw [hb] at h
      have hu : ¬ u.category = 2 := fun q => hz (hc.symm.trans q)
      simp only [lv_args, hu, if_false]
      match i, h with
      | 0, h =>
        have : z = v := by simpa [xld] using h
        subst this
        exact ⟨u, List.mem_cons_self, h1⟩
      | i + 1, h =>
        have h3 : xld (xflat vs) i = some v := by simpa [xld] using h
        obtain ⟨x, e1, e2⟩ := xflat_ld (i0 + 1) i v h2 h3
        exact ⟨x, List.mem_cons_of_mem _ (by rw [show i0 + (i + 1) = i0 + 1 + i by omega]; exact e1), e2⟩
/-- the locals with which a method begins -/
theorem xls_entry {r : Nat → Option Nat} {av w : List Value} {n : Nat} (k : xva r av w) (hn : (xflat av).length ≤ n) : xls r (xpad n (xflat av)) ((lg_sl w ++ List.replicate (n - (lg_sl w).length) Slot.unset).toArray) n := by
  have hl : (lg_sl w).length ≤ n := by rw [← xflat_len k]; exact hn
  have h := lv_entry w (n := n) hl
  refine ⟨h.1, xpad_len n _ hn, h.2.1, fun i v hv => ?_⟩
  obtain ⟨u, e1, e2⟩ := xflat_ld 0 i v k (xpad_ld n _ i v hv)
  rw [Nat.zero_add] at e1
  exact ⟨u, h.2.2 (i, u) e1, e2⟩
end
section
/-- a state of the machine that belongs to a frame on paper -/
def xRel (E : xE) (ad : Nat → Nat) (cA : FieldType → ClassId) (D : va_G) (cl : List vw_C) (A : Nat → Prop) (r0 : Nat → Option Nat) (s : State) (nL : Nat) (f : xF) (ws : va_W) (H : Heap) (locs : List Loc) (lsC : Array Slot) (stC : List Value) : Prop :=
  (xW E ad cA f.2.2.2 ws ∧ xmon r0 (xa ad ws)) ∧ va_P D cl ws H ∧ va_D A ws ∧ va_S A s.heap H locs ∧ xls (xa ad ws) f.2.1 lsC nL ∧ xva (xa ad ws) f.2.2.1 stC
/-- every state that belongs to this frame goes on to its end -/
def xG (p : Program) (l : Launch) (e : Env) (R : Room) (s : State) (m : MethodId) (args : Array Value) (below : List Frame) (meth : Method) (c : Code) (Q : State → Prop) (E : xE) (ad : Nat → Nat) (cA : FieldType → ClassId) (D : va_G) (cl : List vw_C) (A : Nat → Prop) (r0 : Nat → Option Nat) (nL mc ms fin finS : Nat) (g : xF) : Prop :=
  ∀ (cells slots : Nat) (ws : va_W) (H : Heap) (locs : List Loc) (lsC : Array Slot) (stC : List Value), cells + fin ≤ mc + g.2.2.2.1.length → slots + finS ≤ ms + xsz E g.2.2.2.1 → xRel E ad cA D cl A r0 s nL g ws H locs lsC stC → W p l e R s m args below meth c H locs cells slots Q (F0 m g.1 lsC stC)
section XSO
variable {p : Program} {l : Launch} {e : Env} {R : Room} {s : State} {m : MethodId} {args : Array Value} {below : List Frame} {meth : Method} {c : Code} {Q : State → Prop}
variable {E : xE} {ad : Nat → Nat} {cA : FieldType → ClassId} {D : va_G} {cl : List vw_C} {A : Nat → Prop} {r0 : Nat → Option Nat} {nL mc ms fin finS : Nat}
variable {rc : Nat → xM → xF → xP → Prop} {rn : xF → xP → Prop} {d : Nat} {Q0 : xP} {pc nx : Nat} {ls : xL} {st : List Value} {h : xH}
theorem so_ii (hN : ∀ f, rn f Q0 → xG p l e R s m args below meth c Q E ad cA D cl A r0 nL mc ms fin finS f) {g : Int32 → Int32 → Int32} (row : ∀ (H : Heap) (locs : List Loc) (cells slots : Nat) (lsC : Array Slot) (rest : List Value) (x : Int32) (y : Int32), W p l e R s m args below meth c H locs cells slots Q (F0 m nx lsC (.int (g x y) :: rest)) → W p l e R s m args below meth c H locs cells slots Q (F0 m pc lsC (.int y :: .int x :: rest))) (k : xwo E rc rn d Q0 (xii g nx ls st h)) : xG p l e R s m args below meth c Q E ad cA D cl A r0 nL mc ms fin finS (pc, ls, st, h) := by
  unfold xii at k
  split at k
  · rename_i y x r
    intro cells slots ws H locs lsC stC h1 h2 hr
    obtain ⟨hW, hP, hD, hS, hl, hst⟩ := hr
    obtain ⟨_, _, rfl, rfl, _, _, rfl, rfl, hst⟩ := hst
    exact row _ _ _ _ _ _ _ _ (hN _ k cells slots ws H locs lsC _ h1 h2 ⟨hW, hP, hD, hS, hl, ⟨_, _, rfl, rfl, hst⟩⟩)
  · exact k.1.elim
theorem so_iiD (hN : ∀ f, rn f Q0 → xG p l e R s m args below meth c Q E ad cA D cl A r0 nL mc ms fin finS f) {g : Int32 → Int32 → Int32} (row : ∀ (H : Heap) (locs : List Loc) (cells slots : Nat) (lsC : Array Slot) (rest : List Value) (x : Int32) (y : Int32), ¬ y = 0 → W p l e R s m args below meth c H locs cells slots Q (F0 m nx lsC (.int (g x y) :: rest)) → W p l e R s m args below meth c H locs cells slots Q (F0 m pc lsC (.int y :: .int x :: rest))) (k : xwo E rc rn d Q0 (xiiD g nx ls st h)) : xG p l e R s m args below meth c Q E ad cA D cl A r0 nL mc ms fin finS (pc, ls, st, h) := by
  unfold xiiD at k
  split at k
  · rename_i y x r
    intro cells slots ws H locs lsC stC h1 h2 hr
    obtain ⟨hW, hP, hD, hS, hl, hst⟩ := hr
    obtain ⟨_, _, rfl, rfl, _, _, rfl, rfl, hst⟩ := hst
    exact row _ _ _ _ _ _ _ _ k.1 (hN _ k.2 cells slots ws H locs lsC _ h1 h2 ⟨hW, hP, hD, hS, hl, ⟨_, _, rfl, rfl, hst⟩⟩)
  · exact k.1.elim
theorem so_li (hN : ∀ f, rn f Q0 → xG p l e R s m args below meth c Q E ad cA D cl A r0 nL mc ms fin finS f) {g : Int64 → Int32 → Int64} (row : ∀ (H : Heap) (locs : List Loc) (cells slots : Nat) (lsC : Array Slot) (rest : List Value) (x : Int64) (y : Int32), W p l e R s m args below meth c H locs cells slots Q (F0 m nx lsC (.long (g x y) :: rest)) → W p l e R s m args below meth c H locs cells slots Q (F0 m pc lsC (.int y :: .long x :: rest))) (k : xwo E rc rn d Q0 (xli g nx ls st h)) : xG p l e R s m args below meth c Q E ad cA D cl A r0 nL mc ms fin finS (pc, ls, st, h) := by
  unfold xli at k
  split at k
  · rename_i y x r
    intro cells slots ws H locs lsC stC h1 h2 hr
    obtain ⟨hW, hP, hD, hS, hl, hst⟩ := hr
    obtain ⟨_, _, rfl, rfl, _, _, rfl, rfl, hst⟩ := hst
    exact row _ _ _ _ _ _ _ _ (hN _ k cells slots ws H locs lsC _ h1 h2 ⟨hW, hP, hD, hS, hl, ⟨_, _, rfl, rfl, hst⟩⟩)
  · exact k.1.elim
theorem so_ff (hN : ∀ f, rn f Q0 → xG p l e R s m args below meth c Q E ad cA D cl A r0 nL mc ms fin finS f) {g : UInt32 → UInt32 → UInt32} (row : ∀ (H : Heap) (locs : List Loc) (cells slots : Nat) (lsC : Array Slot) (rest : List Value) (x : UInt32) (y : UInt32), vf_n32 (g x y) → W p l e R s m args below meth c H locs cells slots Q (F0 m nx lsC (.float (g x y) :: rest)) → W p l e R s m args below meth c H locs cells slots Q (F0 m pc lsC (.float y :: .float x :: rest))) (k : xwo E rc rn d Q0 (xff g nx ls st h)) : xG p l e R s m args below meth c Q E ad cA D cl A r0 nL mc ms fin finS (pc, ls, st, h) := by
  unfold xff at k
  split at k
  · rename_i y x r
    intro cells slots ws H locs lsC stC h1 h2 hr
    obtain ⟨hW, hP, hD, hS, hl, hst⟩ := hr
    obtain ⟨_, _, rfl, rfl, _, _, rfl, rfl, hst⟩ := hst
    exact row _ _ _ _ _ _ _ _ k.1 (hN _ k.2 cells slots ws H locs lsC _ h1 h2 ⟨hW, hP, hD, hS, hl, ⟨_, _, rfl, rfl, hst⟩⟩)
  · exact k.1.elim
theorem so_i (hN : ∀ f, rn f Q0 → xG p l e R s m args below meth c Q E ad cA D cl A r0 nL mc ms fin finS f) {g : Int32 → Value} (hg : ∀ x (r : Nat → Option Nat), xv r (g x) (g x)) (row : ∀ (H : Heap) (locs : List Loc) (cells slots : Nat) (lsC : Array Slot) (rest : List Value) (x : Int32), W p l e R s m args below meth c H locs cells slots Q (F0 m nx lsC (g x :: rest)) → W p l e R s m args below meth c H locs cells slots Q (F0 m pc lsC (.int x :: rest))) (k : xwo E rc rn d Q0 (xi g nx ls st h)) : xG p l e R s m args below meth c Q E ad cA D cl A r0 nL mc ms fin finS (pc, ls, st, h) := by
  unfold xi at k
  split at k
  · rename_i x r
    intro cells slots ws H locs lsC stC h1 h2 hr
    obtain ⟨hW, hP, hD, hS, hl, hst⟩ := hr
    obtain ⟨_, _, rfl, rfl, hst⟩ := hst
    exact row _ _ _ _ _ _ _ (hN _ k cells slots ws H locs lsC _ h1 h2 ⟨hW, hP, hD, hS, hl, ⟨_, _, rfl, hg _ _, hst⟩⟩)
  · exact k.1.elim
theorem so_ll (hN : ∀ f, rn f Q0 → xG p l e R s m args below meth c Q E ad cA D cl A r0 nL mc ms fin finS f) {g : Int64 → Int64 → Value} (hg : ∀ x y (r : Nat → Option Nat), xv r (g x y) (g x y)) (row : ∀ (H : Heap) (locs : List Loc) (cells slots : Nat) (lsC : Array Slot) (rest : List Value) (x : Int64) (y : Int64), W p l e R s m args below meth c H locs cells slots Q (F0 m nx lsC (g x y :: rest)) → W p l e R s m args below meth c H locs cells slots Q (F0 m pc lsC (.long y :: .long x :: rest))) (k : xwo E rc rn d Q0 (xll g nx ls st h)) : xG p l e R s m args below meth c Q E ad cA D cl A r0 nL mc ms fin finS (pc, ls, st, h) := by
  unfold xll at k
  split at k
  · rename_i y x r
    intro cells slots ws H locs lsC stC h1 h2 hr
    obtain ⟨hW, hP, hD, hS, hl, hst⟩ := hr
    obtain ⟨_, _, rfl, rfl, _, _, rfl, rfl, hst⟩ := hst
    exact row _ _ _ _ _ _ _ _ (hN _ k cells slots ws H locs lsC _ h1 h2 ⟨hW, hP, hD, hS, hl, ⟨_, _, rfl, hg _ _ _, hst⟩⟩)
  · exact k.1.elim
theorem so_l (hN : ∀ f, rn f Q0 → xG p l e R s m args below meth c Q E ad cA D cl A r0 nL mc ms fin finS f) {g : Int64 → Value} (hg : ∀ x (r : Nat → Option Nat), xv r (g x) (g x)) (row : ∀ (H : Heap) (locs : List Loc) (cells slots : Nat) (lsC : Array Slot) (rest : List Value) (x : Int64), W p l e R s m args below meth c H locs cells slots Q (F0 m nx lsC (g x :: rest)) → W p l e R s m args below meth c H locs cells slots Q (F0 m pc lsC (.long x :: rest))) (k : xwo E rc rn d Q0 (xl g nx ls st h)) : xG p l e R s m args below meth c Q E ad cA D cl A r0 nL mc ms fin finS (pc, ls, st, h) := by
  unfold xl at k
  split at k
  · rename_i x r
    intro cells slots ws H locs lsC stC h1 h2 hr
    obtain ⟨hW, hP, hD, hS, hl, hst⟩ := hr
    obtain ⟨_, _, rfl, rfl, hst⟩ := hst
    exact row _ _ _ _ _ _ _ (hN _ k cells slots ws H locs lsC _ h1 h2 ⟨hW, hP, hD, hS, hl, ⟨_, _, rfl, hg _ _, hst⟩⟩)
  · exact k.1.elim
theorem so_f (hN : ∀ f, rn f Q0 → xG p l e R s m args below meth c Q E ad cA D cl A r0 nL mc ms fin finS f) {g : UInt32 → Value} (hg : ∀ x (r : Nat → Option Nat), xv r (g x) (g x)) (row : ∀ (H : Heap) (locs : List Loc) (cells slots : Nat) (lsC : Array Slot) (rest : List Value) (x : UInt32), W p l e R s m args below meth c H locs cells slots Q (F0 m nx lsC (g x :: rest)) → W p l e R s m args below meth c H locs cells slots Q (F0 m pc lsC (.float x :: rest))) (k : xwo E rc rn d Q0 (xf g nx ls st h)) : xG p l e R s m args below meth c Q E ad cA D cl A r0 nL mc ms fin finS (pc, ls, st, h) := by
  unfold xf at k
  split at k
  · rename_i x r
    intro cells slots ws H locs lsC stC h1 h2 hr
    obtain ⟨hW, hP, hD, hS, hl, hst⟩ := hr
    obtain ⟨_, _, rfl, rfl, hst⟩ := hst
    exact row _ _ _ _ _ _ _ (hN _ k cells slots ws H locs lsC _ h1 h2 ⟨hW, hP, hD, hS, hl, ⟨_, _, rfl, hg _ _, hst⟩⟩)
  · exact k.1.elim
theorem so_fc (hN : ∀ f, rn f Q0 → xG p l e R s m args below meth c Q E ad cA D cl A r0 nL mc ms fin finS f) {op : CmpOp} (row : ∀ (H : Heap) (locs : List Loc) (cells slots : Nat) (lsC : Array Slot) (rest : List Value) (x y : UInt32), W p l e R s m args below meth c H locs cells slots Q (F0 m nx lsC (.int (Op.cmpValue (FP.fcmp x y) op) :: rest)) → W p l e R s m args below meth c H locs cells slots Q (F0 m pc lsC (.float y :: .float x :: rest))) (k : xwo E rc rn d Q0 (xfc op nx ls st h)) : xG p l e R s m args below meth c Q E ad cA D cl A r0 nL mc ms fin finS (pc, ls, st, h) := by
  unfold xfc at k
  split at k
  · rename_i y x r
    intro cells slots ws H locs lsC stC h1 h2 hr
    obtain ⟨hW, hP, hD, hS, hl, hst⟩ := hr
    obtain ⟨_, _, rfl, rfl, _, _, rfl, rfl, hst⟩ := hst
    exact row _ _ _ _ _ _ _ _ (hN _ k cells slots ws H locs lsC _ h1 h2 ⟨hW, hP, hD, hS, hl, ⟨_, _, rfl, rfl, hst⟩⟩)
  · exact k.1.elim
theorem so_push (hN : ∀ f, rn f Q0 → xG p l e R s m args below meth c Q E ad cA D cl A r0 nL mc ms fin finS f) {v : Value} (hv : ∀ ws : va_W, ∃ w, xv (xa ad ws) v w ∧ ∀ (H : Heap) (locs : List Loc) (cells slots : Nat) (lsC : Array Slot) (rest : List Value), W p l e R s m args below meth c H locs cells slots Q (F0 m nx lsC (w :: rest)) → W p l e R s m args below meth c H locs cells slots Q (F0 m pc lsC rest)) (k : xwo E rc rn d Q0 (.inl (nx, ls, v :: st, h))) : xG p l e R s m args below meth c Q E ad cA D cl A r0 nL mc ms fin finS (pc, ls, st, h) := by
  intro cells slots ws H locs lsC stC h1 h2 hr
  obtain ⟨hW, hP, hD, hS, hl, hst⟩ := hr
  obtain ⟨w, hv1, row⟩ := hv ws
  exact row _ _ _ _ _ _ (hN _ k cells slots ws H locs lsC _ h1 h2 ⟨hW, hP, hD, hS, hl, ⟨_, _, rfl, hv1, hst⟩⟩)
theorem so_loi (hN : ∀ f, rn f Q0 → xG p l e R s m args below meth c Q E ad cA D cl A r0 nL mc ms fin finS f) {i : Nat} (row : ∀ (H : Heap) (locs : List Loc) (cells slots : Nat) (lsC : Array Slot) (rest : List Value) (x : Int32), lsC[i]? = some (.val (.int x)) → W p l e R s m args below meth c H locs cells slots Q (F0 m nx lsC (.int x :: rest)) → W p l e R s m args below meth c H locs cells slots Q (F0 m pc lsC rest)) (k : xwo E rc rn d Q0 (xloi i nx ls st h)) : xG p l e R s m args below meth c Q E ad cA D cl A r0 nL mc ms fin finS (pc, ls, st, h) := by
  unfold xloi at k
  split at k
  · rename_i x hx
    intro cells slots ws H locs lsC stC h1 h2 hr
    obtain ⟨hW, hP, hD, hS, hl, hst⟩ := hr
    obtain ⟨_, e1, rfl⟩ := hl.2.2.2 i _ hx
    exact row _ _ _ _ _ _ _ e1 (hN _ k cells slots ws H locs lsC _ h1 h2 ⟨hW, hP, hD, hS, hl, ⟨_, _, rfl, rfl, hst⟩⟩)
  · exact k.1.elim
theorem so_lol (hN : ∀ f, rn f Q0 → xG p l e R s m args below meth c Q E ad cA D cl A r0 nL mc ms fin finS f) {i : Nat} (row : ∀ (H : Heap) (locs : List Loc) (cells slots : Nat) (lsC : Array Slot) (rest : List Value) (x : Int64), lsC[i]? = some (.val (.long x)) → W p l e R s m args below meth c H locs cells slots Q (F0 m nx lsC (.long x :: rest)) → W p l e R s m args below meth c H locs cells slots Q (F0 m pc lsC rest)) (k : xwo E rc rn d Q0 (xlol i nx ls st h)) : xG p l e R s m args below meth c Q E ad cA D cl A r0 nL mc ms fin finS (pc, ls, st, h) := by
  unfold xlol at k
  split at k
  · rename_i x hx
    intro cells slots ws H locs lsC stC h1 h2 hr
    obtain ⟨hW, hP, hD, hS, hl, hst⟩ := hr
    obtain ⟨_, e1, rfl⟩ := hl.2.2.2 i _ hx
    exact row _ _ _ _ _ _ _ e1 (hN _ k cells slots ws H locs lsC _ h1 h2 ⟨hW, hP, hD, hS, hl, ⟨_, _, rfl, rfl, hst⟩⟩)
  · exact k.1.elim
theorem so_lof (hN : ∀ f, rn f Q0 → xG p l e R s m args below meth c Q E ad cA D cl A r0 nL mc ms fin finS f) {i : Nat} (row : ∀ (H : Heap) (locs : List Loc) (cells slots : Nat) (lsC : Array Slot) (rest : List Value) (x : UInt32), lsC[i]? = some (.val (.float x)) → W p l e R s m args below meth c H locs cells slots Q (F0 m nx lsC (.float x :: rest)) → W p l e R s m args below meth c H locs cells slots Q (F0 m pc lsC rest)) (k : xwo E rc rn d Q0 (xlof i nx ls st h)) : xG p l e R s m args below meth c Q E ad cA D cl A r0 nL mc ms fin finS (pc, ls, st, h) := by
  unfold xlof at k
  split at k
  · rename_i x hx
    intro cells slots ws H locs lsC stC h1 h2 hr
    obtain ⟨hW, hP, hD, hS, hl, hst⟩ := hr
    obtain ⟨_, e1, rfl⟩ := hl.2.2.2 i _ hx
    exact row _ _ _ _ _ _ _ e1 (hN _ k cells slots ws H locs lsC _ h1 h2 ⟨hW, hP, hD, hS, hl, ⟨_, _, rfl, rfl, hst⟩⟩)
  · exact k.1.elim
theorem so_loa (hN : ∀ f, rn f Q0 → xG p l e R s m args below meth c Q E ad cA D cl A r0 nL mc ms fin finS f) {i : Nat} (row : ∀ (H : Heap) (locs : List Loc) (cells slots : Nat) (lsC : Array Slot) (rest : List Value) (x : Nat), lsC[i]? = some (.val (.ref x)) → W p l e R s m args below meth c H locs cells slots Q (F0 m nx lsC (.ref x :: rest)) → W p l e R s m args below meth c H locs cells slots Q (F0 m pc lsC rest)) (row2 : ∀ (H : Heap) (locs : List Loc) (cells slots : Nat) (lsC : Array Slot) (rest : List Value), lsC[i]? = some (.val .null) → W p l e R s m args below meth c H locs cells slots Q (F0 m nx lsC (.null :: rest)) → W p l e R s m args below meth c H locs cells slots Q (F0 m pc lsC rest)) (k : xwo E rc rn d Q0 (xloa i nx ls st h)) : xG p l e R s m args below meth c Q E ad cA D cl A r0 nL mc ms fin finS (pc, ls, st, h) := by
  unfold xloa at k
  split at k
  · rename_i x hx
    intro cells slots ws H locs lsC stC h1 h2 hr
    obtain ⟨hW, hP, hD, hS, hl, hst⟩ := hr
    obtain ⟨_, e1, a, e2, rfl⟩ := hl.2.2.2 i _ hx
    exact row _ _ _ _ _ _ _ e1 (hN _ k cells slots ws H locs lsC _ h1 h2 ⟨hW, hP, hD, hS, hl, ⟨_, _, rfl, ⟨a, e2, rfl⟩, hst⟩⟩)
  · rename_i hx
    intro cells slots ws H locs lsC stC h1 h2 hr
    obtain ⟨hW, hP, hD, hS, hl, hst⟩ := hr
    obtain ⟨_, e1, rfl⟩ := hl.2.2.2 i _ hx
    exact row2 _ _ _ _ _ _ e1 (hN _ k cells slots ws H locs lsC _ h1 h2 ⟨hW, hP, hD, hS, hl, ⟨_, _, rfl, rfl, hst⟩⟩)
  · exact k.1.elim
theorem so_sti (hN : ∀ f, rn f Q0 → xG p l e R s m args below meth c Q E ad cA D cl A r0 nL mc ms fin finS f) {i : Nat} (row : ∀ (H : Heap) (locs : List Loc) (cells slots : Nat) (lsC : Array Slot) (rest : List Value) (x : Int32), lv_has lsC nL (xall lsC) → i < nL → (∀ ls2 : Array Slot, lv_has ls2 nL ((i, Value.int x) :: (xall lsC).filter (fun q => !(q.1 == i) && !(q.1 + 1 == i && q.2.category == 2))) → W p l e R s m args below meth c H locs cells slots Q (F0 m nx ls2 rest)) → W p l e R s m args below meth c H locs cells slots Q (F0 m pc lsC (.int x :: rest))) (k : xwo E rc rn d Q0 (xsti i nx ls st h)) : xG p l e R s m args below meth c Q E ad cA D cl A r0 nL mc ms fin finS (pc, ls, st, h) := by
  unfold xsti at k
  split at k
  · rename_i x r
    split at k
    · rename_i l2 hp
      intro cells slots ws H locs lsC stC h1 h2 hr
      obtain ⟨hW, hP, hD, hS, hl, hst⟩ := hr
      obtain ⟨_, _, rfl, rfl, hst⟩ := hst
      refine row _ _ _ _ _ _ _ (xls_has hl) (by have := xput_lt hp; have h5 : ls.length = nL := hl.2.1; omega) (fun ls2 h9 => ?_)
      exact hN _ k cells slots ws H locs ls2 _ h1 h2 ⟨hW, hP, hD, hS, (xls_put hl hp rfl h9).1, hst⟩
    · exact k.1.elim
  · exact k.1.elim
theorem so_stf (hN : ∀ f, rn f Q0 → xG p l e R s m args below meth c Q E ad cA D cl A r0 nL mc ms fin finS f) {i : Nat} (row : ∀ (H : Heap) (locs : List Loc) (cells slots : Nat) (lsC : Array Slot) (rest : List Value) (x : UInt32), lv_has lsC nL (xall lsC) → i < nL → (∀ ls2 : Array Slot, lv_has ls2 nL ((i, Value.float x) :: (xall lsC).filter (fun q => !(q.1 == i) && !(q.1 + 1 == i && q.2.category == 2))) → W p l e R s m args below meth c H locs cells slots Q (F0 m nx ls2 rest)) → W p l e R s m args below meth c H locs cells slots Q (F0 m pc lsC (.float x :: rest))) (k : xwo E rc rn d Q0 (xstf i nx ls st h)) : xG p l e R s m args below meth c Q E ad cA D cl A r0 nL mc ms fin finS (pc, ls, st, h) := by
  unfold xstf at k
  split at k
  · rename_i x r
    split at k
    · rename_i l2 hp
      intro cells slots ws H locs lsC stC h1 h2 hr
      obtain ⟨hW, hP, hD, hS, hl, hst⟩ := hr
      obtain ⟨_, _, rfl, rfl, hst⟩ := hst
      refine row _ _ _ _ _ _ _ (xls_has hl) (by have := xput_lt hp; have h5 : ls.length = nL := hl.2.1; omega) (fun ls2 h9 => ?_)
      exact hN _ k cells slots ws H locs ls2 _ h1 h2 ⟨hW, hP, hD, hS, (xls_put hl hp rfl h9).1, hst⟩
    · exact k.1.elim
  · exact k.1.elim
theorem so_stl (hN : ∀ f, rn f Q0 → xG p l e R s m args below meth c Q E ad cA D cl A r0 nL mc ms fin finS f) {i : Nat} (row : ∀ (H : Heap) (locs : List Loc) (cells slots : Nat) (lsC : Array Slot) (rest : List Value) (x : Int64), lv_has lsC nL (xall lsC) → i + 1 < nL → (∀ ls2 : Array Slot, lv_has ls2 nL ((i, Value.long x) :: (xall lsC).filter (fun q => !(q.1 == i) && (!(q.1 == i + 1) && !(q.1 + 1 == i && q.2.category == 2)))) → W p l e R s m args below meth c H locs cells slots Q (F0 m nx ls2 rest)) → W p l e R s m args below meth c H locs cells slots Q (F0 m pc lsC (.long x :: rest))) (k : xwo E rc rn d Q0 (xstl i nx ls st h)) : xG p l e R s m args below meth c Q E ad cA D cl A r0 nL mc ms fin finS (pc, ls, st, h) := by
  unfold xstl at k
  split at k
  · rename_i x r
    split at k
    · rename_i l2 hp
      intro cells slots ws H locs lsC stC h1 h2 hr
      obtain ⟨hW, hP, hD, hS, hl, hst⟩ := hr
      obtain ⟨_, _, rfl, rfl, hst⟩ := hst
      refine row _ _ _ _ _ _ _ (xls_has hl) (by have := xput2_lt hp; have h5 : ls.length = nL := hl.2.1; omega) (fun ls2 h9 => ?_)
      exact hN _ k cells slots ws H locs ls2 _ h1 h2 ⟨hW, hP, hD, hS, (xls_put2 hl hp rfl h9), hst⟩
    · exact k.1.elim
  · exact k.1.elim
theorem so_sta (hN : ∀ f, rn f Q0 → xG p l e R s m args below meth c Q E ad cA D cl A r0 nL mc ms fin finS f) {i : Nat} (row : ∀ (H : Heap) (locs : List Loc) (cells slots : Nat) (lsC : Array Slot) (rest : List Value) (x : Nat), lv_has lsC nL (xall lsC) → i < nL → (∀ ls2 : Array Slot, lv_has ls2 nL ((i, Value.ref x) :: (xall lsC).filter (fun q => !(q.1 == i) && !(q.1 + 1 == i && q.2.category == 2))) → W p l e R s m args below meth c H locs cells slots Q (F0 m nx ls2 rest)) → W p l e R s m args below meth c H locs cells slots Q (F0 m pc lsC (.ref x :: rest))) (row2 : ∀ (H : Heap) (locs : List Loc) (cells slots : Nat) (lsC : Array Slot) (rest : List Value), lv_has lsC nL (xall lsC) → i < nL → (∀ ls2 : Array Slot, lv_has ls2 nL ((i, Value.null) :: (xall lsC).filter (fun q => !(q.1 == i) && !(q.1 + 1 == i && q.2.category == 2))) → W p l e R s m args below meth c H locs cells slots Q (F0 m nx ls2 rest)) → W p l e R s m args below meth c H locs cells slots Q (F0 m pc lsC (.null :: rest))) (k : xwo E rc rn d Q0 (xsta i nx ls st h)) : xG p l e R s m args below meth c Q E ad cA D cl A r0 nL mc ms fin finS (pc, ls, st, h) := by
  unfold xsta at k
  split at k
  · rename_i x r
    split at k
    · rename_i l2 hp
      intro cells slots ws H locs lsC stC h1 h2 hr
      obtain ⟨hW, hP, hD, hS, hl, hst⟩ := hr
      obtain ⟨_, _, rfl, ⟨a, e2, rfl⟩, hst⟩ := hst
      refine row _ _ _ _ _ _ _ (xls_has hl) (by have := xput_lt hp; have h5 : ls.length = nL := hl.2.1; omega) (fun ls2 h9 => ?_)
      exact hN _ k cells slots ws H locs ls2 _ h1 h2 ⟨hW, hP, hD, hS, (xls_put hl hp ⟨a, e2, rfl⟩ h9).1, hst⟩
    · exact k.1.elim
  · rename_i r
    split at k
    · rename_i l2 hp
      intro cells slots ws H locs lsC stC h1 h2 hr
      obtain ⟨hW, hP, hD, hS, hl, hst⟩ := hr
      obtain ⟨_, _, rfl, rfl, hst⟩ := hst
      refine row2 _ _ _ _ _ _ (xls_has hl) (by have := xput_lt hp; have h5 : ls.length = nL := hl.2.1; omega) (fun ls2 h9 => ?_)
      exact hN _ k cells slots ws H locs ls2 _ h1 h2 ⟨hW, hP, hD, hS, (xls_put hl hp rfl h9).1, hst⟩
    · exact k.1.elim
  · exact k.1.elim
theorem so_inc (hN : ∀ f, rn f Q0 → xG p l e R s m args below meth c Q E ad cA D cl A r0 nL mc ms fin finS f) {i : Nat} {z : Int32} (row : ∀ (H : Heap) (locs : List Loc) (cells slots : Nat) (lsC : Array Slot) (rest : List Value) (x : Int32), lv_has lsC nL (xall lsC) → lsC[i]? = some (.val (.int x)) → i < nL → (∀ ls2 : Array Slot, lv_has ls2 nL ((i, Value.int (x + z)) :: (xall lsC).filter (fun q => !(q.1 == i) && !(q.1 + 1 == i && q.2.category == 2))) → W p l e R s m args below meth c H locs cells slots Q (F0 m nx ls2 rest)) → W p l e R s m args below meth c H locs cells slots Q (F0 m pc lsC rest)) (k : xwo E rc rn d Q0 (xinc i (.int z) nx ls st h)) : xG p l e R s m args below meth c Q E ad cA D cl A r0 nL mc ms fin finS (pc, ls, st, h) := by
  unfold xinc at k
  split at k
  · rename_i x z2 hx hz
    cases hz
    split at k
    · rename_i l2 hp
      intro cells slots ws H locs lsC stC h1 h2 hr
      obtain ⟨hW, hP, hD, hS, hl, hst⟩ := hr
      obtain ⟨_, e1, rfl⟩ := hl.2.2.2 i _ hx
      refine row _ _ _ _ _ _ _ (xls_has hl) e1 (by have := xput_lt hp; have h5 : ls.length = nL := hl.2.1; omega) (fun ls2 h9 => ?_)
      exact hN _ k cells slots ws H locs ls2 _ h1 h2 ⟨hW, hP, hD, hS, (xls_put hl hp rfl h9).1, hst⟩
    · exact k.1.elim
  · exact k.1.elim
theorem so_b1 (hN : ∀ f, rn f Q0 → xG p l e R s m args below meth c Q E ad cA D cl A r0 nL mc ms fin finS f) {g : Int32 → Prop} {t : Nat} (row : ∀ (H : Heap) (locs : List Loc) (cells slots : Nat) (lsC : Array Slot) (rest : List Value) (x : Int32), (g x → W p l e R s m args below meth c H locs cells slots Q (F0 m t lsC rest)) → (¬ g x → W p l e R s m args below meth c H locs cells slots Q (F0 m nx lsC rest)) → W p l e R s m args below meth c H locs cells slots Q (F0 m pc lsC (.int x :: rest))) (k : xwo E rc rn d Q0 (xb1 g nx [t] ls st h)) : xG p l e R s m args below meth c Q E ad cA D cl A r0 nL mc ms fin finS (pc, ls, st, h) := by
  replace k : xwo E rc rn d Q0 (xb1t g nx t ls st h) := k
  unfold xb1t at k
  split at k
  · rename_i x r
    intro cells slots ws H locs lsC stC h1 h2 hr
    obtain ⟨hW, hP, hD, hS, hl, hst⟩ := hr
    obtain ⟨_, _, rfl, rfl, hst⟩ := hst
    exact row _ _ _ _ _ _ _ (fun c => hN _ (k.1 c) cells slots ws H locs lsC _ h1 h2 ⟨hW, hP, hD, hS, hl, hst⟩) (fun c => hN _ (k.2 c) cells slots ws H locs lsC _ h1 h2 ⟨hW, hP, hD, hS, hl, hst⟩)
  · exact k.1.elim
theorem so_b2 (hN : ∀ f, rn f Q0 → xG p l e R s m args below meth c Q E ad cA D cl A r0 nL mc ms fin finS f) {g : Int32 → Int32 → Prop} {t : Nat} (row : ∀ (H : Heap) (locs : List Loc) (cells slots : Nat) (lsC : Array Slot) (rest : List Value) (x y : Int32), (g x y → W p l e R s m args below meth c H locs cells slots Q (F0 m t lsC rest)) → (¬ g x y → W p l e R s m args below meth c H locs cells slots Q (F0 m nx lsC rest)) → W p l e R s m args below meth c H locs cells slots Q (F0 m pc lsC (.int y :: .int x :: rest))) (k : xwo E rc rn d Q0 (xb2 g nx [t] ls st h)) : xG p l e R s m args below meth c Q E ad cA D cl A r0 nL mc ms fin finS (pc, ls, st, h) := by
  replace k : xwo E rc rn d Q0 (xb2t g nx t ls st h) := k
  unfold xb2t at k
  split at k
  · rename_i y x r
    intro cells slots ws H locs lsC stC h1 h2 hr
    obtain ⟨hW, hP, hD, hS, hl, hst⟩ := hr
    obtain ⟨_, _, rfl, rfl, _, _, rfl, rfl, hst⟩ := hst
    exact row _ _ _ _ _ _ _ _ (fun c => hN _ (k.1 c) cells slots ws H locs lsC _ h1 h2 ⟨hW, hP, hD, hS, hl, hst⟩) (fun c => hN _ (k.2 c) cells slots ws H locs lsC _ h1 h2 ⟨hW, hP, hD, hS, hl, hst⟩)
  · exact k.1.elim
theorem so_nul (hN : ∀ f, rn f Q0 → xG p l e R s m args below meth c Q E ad cA D cl A r0 nL mc ms fin finS f) {a b : Nat} (row : ∀ (H : Heap) (locs : List Loc) (cells slots : Nat) (lsC : Array Slot) (rest : List Value), W p l e R s m args below meth c H locs cells slots Q (F0 m a lsC rest) → W p l e R s m args below meth c H locs cells slots Q (F0 m pc lsC (.null :: rest))) (row2 : ∀ (H : Heap) (locs : List Loc) (cells slots : Nat) (lsC : Array Slot) (rest : List Value) (x : Nat), W p l e R s m args below meth c H locs cells slots Q (F0 m b lsC rest) → W p l e R s m args below meth c H locs cells slots Q (F0 m pc lsC (.ref x :: rest))) (k : xwo E rc rn d Q0 (xnul a b ls st h)) : xG p l e R s m args below meth c Q E ad cA D cl A r0 nL mc ms fin finS (pc, ls, st, h) := by
  unfold xnul at k
  split at k
  · rename_i r
    intro cells slots ws H locs lsC stC h1 h2 hr
    obtain ⟨hW, hP, hD, hS, hl, hst⟩ := hr
    obtain ⟨_, _, rfl, rfl, hst⟩ := hst
    exact row _ _ _ _ _ _ (hN _ k cells slots ws H locs lsC _ h1 h2 ⟨hW, hP, hD, hS, hl, hst⟩)
  · rename_i x r
    intro cells slots ws H locs lsC stC h1 h2 hr
    obtain ⟨hW, hP, hD, hS, hl, hst⟩ := hr
    obtain ⟨_, _, rfl, ⟨y, e2, rfl⟩, hst⟩ := hst
    exact row2 _ _ _ _ _ _ _ (hN _ k cells slots ws H locs lsC _ h1 h2 ⟨hW, hP, hD, hS, hl, hst⟩)
  · exact k.1.elim
theorem so_goto (hN : ∀ f, rn f Q0 → xG p l e R s m args below meth c Q E ad cA D cl A r0 nL mc ms fin finS f) {t : Nat} (row : ∀ (H : Heap) (locs : List Loc) (cells slots : Nat) (lsC : Array Slot) (rest : List Value), W p l e R s m args below meth c H locs cells slots Q (F0 m t lsC rest) → W p l e R s m args below meth c H locs cells slots Q (F0 m pc lsC rest)) (k : xwo E rc rn d Q0 (.inl (t, ls, st, h))) : xG p l e R s m args below meth c Q E ad cA D cl A r0 nL mc ms fin finS (pc, ls, st, h) := by
  intro cells slots ws H locs lsC stC h1 h2 hr
  exact row _ _ _ _ _ _ (hN _ k cells slots ws H locs lsC _ h1 h2 hr)
theorem so_dup (hN : ∀ f, rn f Q0 → xG p l e R s m args below meth c Q E ad cA D cl A r0 nL mc ms fin finS f) (row : ∀ (H : Heap) (locs : List Loc) (cells slots : Nat) (lsC : Array Slot) (rest : List Value) (v : Value), v.category = 1 → W p l e R s m args below meth c H locs cells slots Q (F0 m nx lsC (v :: v :: rest)) → W p l e R s m args below meth c H locs cells slots Q (F0 m pc lsC (v :: rest))) (k : xwo E rc rn d Q0 (xdup nx ls st h)) : xG p l e R s m args below meth c Q E ad cA D cl A r0 nL mc ms fin finS (pc, ls, st, h) := by
  unfold xdup at k
  split at k
  · rename_i v r
    cases hb : (Nat.beq v.category 1) with
    | false => rw [hb] at k; exact k.1.elim
    | true =>
      rw [hb] at k
      have c1 := Nat.eq_of_beq_eq_true hb
      intro cells slots ws H locs lsC stC h1 h2 hr
      obtain ⟨hW, hP, hD, hS, hl, hst⟩ := hr
      obtain ⟨u0, _, rfl, hu0, hst⟩ := hst
      exact row _ _ _ _ _ _ _ ((xv_cat hu0).trans c1) (hN _ k cells slots ws H locs lsC _ h1 h2 ⟨hW, hP, hD, hS, hl, ⟨_, _, rfl, hu0, ⟨_, _, rfl, hu0, hst⟩⟩⟩)
  · exact k.1.elim
theorem so_pop (hN : ∀ f, rn f Q0 → xG p l e R s m args below meth c Q E ad cA D cl A r0 nL mc ms fin finS f) (row : ∀ (H : Heap) (locs : List Loc) (cells slots : Nat) (lsC : Array Slot) (rest : List Value) (v : Value), v.category = 1 → W p l e R s m args below meth c H locs cells slots Q (F0 m nx lsC rest) → W p l e R s m args below meth c H locs cells slots Q (F0 m pc lsC (v :: rest))) (k : xwo E rc rn d Q0 (xpo nx ls st h)) : xG p l e R s m args below meth c Q E ad cA D cl A r0 nL mc ms fin finS (pc, ls, st, h) := by
  unfold xpo at k
  split at k
  · rename_i v r
    cases hb : Nat.beq v.category 1 with
    | false => rw [hb] at k; exact k.1.elim
    | true =>
      rw [hb] at k
      have c1 := Nat.eq_of_beq_eq_true hb
      intro cells slots ws H locs lsC stC h1 h2 hr
      obtain ⟨hW, hP, hD, hS, hl, hst⟩ := hr
      obtain ⟨u0, _, rfl, hu0, hst⟩ := hst
      exact row _ _ _ _ _ _ _ ((xv_cat hu0).trans c1) (hN _ k cells slots ws H locs lsC _ h1 h2 ⟨hW, hP, hD, hS, hl, hst⟩)
  · exact k.1.elim
theorem so_dx1 (hN : ∀ f, rn f Q0 → xG p l e R s m args below meth c Q E ad cA D cl A r0 nL mc ms fin finS f) (row : ∀ (H : Heap) (locs : List Loc) (cells slots : Nat) (lsC : Array Slot) (rest : List Value) (v w : Value), v.category = 1 → w.category = 1 → W p l e R s m args below meth c H locs cells slots Q (F0 m nx lsC (v :: w :: v :: rest)) → W p l e R s m args below meth c H locs cells slots Q (F0 m pc lsC (v :: w :: rest))) (k : xwo E rc rn d Q0 (xdx1 nx ls st h)) : xG p l e R s m args below meth c Q E ad cA D cl A r0 nL mc ms fin finS (pc, ls, st, h) := by
  unfold xdx1 at k
  split at k
  · rename_i v w r
    cases hb : (Nat.beq v.category 1 && Nat.beq w.category 1) with
    | false => rw [hb] at k; exact k.1.elim
    | true =>
      rw [hb] at k
      rw [Bool.and_eq_true] at hb
      have c1 := Nat.eq_of_beq_eq_true hb.1
      have c2 := Nat.eq_of_beq_eq_true hb.2
      intro cells slots ws H locs lsC stC h1 h2 hr
      obtain ⟨hW, hP, hD, hS, hl, hst⟩ := hr
      obtain ⟨u0, _, rfl, hu0, u1, _, rfl, hu1, hst⟩ := hst
      exact row _ _ _ _ _ _ _ _ ((xv_cat hu0).trans c1) ((xv_cat hu1).trans c2) (hN _ k cells slots ws H locs lsC _ h1 h2 ⟨hW, hP, hD, hS, hl, ⟨_, _, rfl, hu0, ⟨_, _, rfl, hu1, ⟨_, _, rfl, hu0, hst⟩⟩⟩⟩)
  · exact k.1.elim
theorem so_dx2 (hN : ∀ f, rn f Q0 → xG p l e R s m args below meth c Q E ad cA D cl A r0 nL mc ms fin finS f) (row : ∀ (H : Heap) (locs : List Loc) (cells slots : Nat) (lsC : Array Slot) (rest : List Value) (v w z : Value), v.category = 1 → w.category = 1 → z.category = 1 → W p l e R s m args below meth c H locs cells slots Q (F0 m nx lsC (v :: w :: z :: v :: rest)) → W p l e R s m args below meth c H locs cells slots Q (F0 m pc lsC (v :: w :: z :: rest))) (k : xwo E rc rn d Q0 (xdx2 nx ls st h)) : xG p l e R s m args below meth c Q E ad cA D cl A r0 nL mc ms fin finS (pc, ls, st, h) := by
  unfold xdx2 at k
  split at k
  · rename_i v w z r
    cases hb : (Nat.beq v.category 1 && Nat.beq w.category 1 && Nat.beq z.category 1) with
    | false => rw [hb] at k; exact k.1.elim
    | true =>
      rw [hb] at k
      rw [Bool.and_eq_true, Bool.and_eq_true] at hb
      have c1 := Nat.eq_of_beq_eq_true hb.1.1
      have c2 := Nat.eq_of_beq_eq_true hb.1.2
      have c3 := Nat.eq_of_beq_eq_true hb.2
      intro cells slots ws H locs lsC stC h1 h2 hr
      obtain ⟨hW, hP, hD, hS, hl, hst⟩ := hr
      obtain ⟨u0, _, rfl, hu0, u1, _, rfl, hu1, u2, _, rfl, hu2, hst⟩ := hst
      exact row _ _ _ _ _ _ _ _ _ ((xv_cat hu0).trans c1) ((xv_cat hu1).trans c2) ((xv_cat hu2).trans c3) (hN _ k cells slots ws H locs lsC _ h1 h2 ⟨hW, hP, hD, hS, hl, ⟨_, _, rfl, hu0, ⟨_, _, rfl, hu1, ⟨_, _, rfl, hu2, ⟨_, _, rfl, hu0, hst⟩⟩⟩⟩⟩)
  · exact k.1.elim
theorem so_d2x1 (hN : ∀ f, rn f Q0 → xG p l e R s m args below meth c Q E ad cA D cl A r0 nL mc ms fin finS f) (row : ∀ (H : Heap) (locs : List Loc) (cells slots : Nat) (lsC : Array Slot) (rest : List Value) (v w : Value), v.category = 2 → w.category = 1 → W p l e R s m args below meth c H locs cells slots Q (F0 m nx lsC (v :: w :: v :: rest)) → W p l e R s m args below meth c H locs cells slots Q (F0 m pc lsC (v :: w :: rest))) (k : xwo E rc rn d Q0 (xd2x1 nx ls st h)) : xG p l e R s m args below meth c Q E ad cA D cl A r0 nL mc ms fin finS (pc, ls, st, h) := by
  unfold xd2x1 at k
  split at k
  · rename_i v w r
    cases hb : (Nat.beq v.category 2 && Nat.beq w.category 1) with
    | false => rw [hb] at k; exact k.1.elim
    | true =>
      rw [hb] at k
      rw [Bool.and_eq_true] at hb
      have c1 := Nat.eq_of_beq_eq_true hb.1
      have c2 := Nat.eq_of_beq_eq_true hb.2
      intro cells slots ws H locs lsC stC h1 h2 hr
      obtain ⟨hW, hP, hD, hS, hl, hst⟩ := hr
      obtain ⟨u0, _, rfl, hu0, u1, _, rfl, hu1, hst⟩ := hst
      exact row _ _ _ _ _ _ _ _ ((xv_cat hu0).trans c1) ((xv_cat hu1).trans c2) (hN _ k cells slots ws H locs lsC _ h1 h2 ⟨hW, hP, hD, hS, hl, ⟨_, _, rfl, hu0, ⟨_, _, rfl, hu1, ⟨_, _, rfl, hu0, hst⟩⟩⟩⟩)
  · exact k.1.elim
theorem so_d2 (hN : ∀ f, rn f Q0 → xG p l e R s m args below meth c Q E ad cA D cl A r0 nL mc ms fin finS f) (row : ∀ (H : Heap) (locs : List Loc) (cells slots : Nat) (lsC : Array Slot) (rest : List Value) (v w : Value), v.category = 1 → w.category = 1 → W p l e R s m args below meth c H locs cells slots Q (F0 m nx lsC (v :: w :: v :: w :: rest)) → W p l e R s m args below meth c H locs cells slots Q (F0 m pc lsC (v :: w :: rest))) (row2 : ∀ (H : Heap) (locs : List Loc) (cells slots : Nat) (lsC : Array Slot) (rest : List Value) (v : Value), v.category = 2 → W p l e R s m args below meth c H locs cells slots Q (F0 m nx lsC (v :: v :: rest)) → W p l e R s m args below meth c H locs cells slots Q (F0 m pc lsC (v :: rest))) (k : xwo E rc rn d Q0 (xd2 nx ls st h)) : xG p l e R s m args below meth c Q E ad cA D cl A r0 nL mc ms fin finS (pc, ls, st, h) := by
  unfold xd2 at k
  split at k
  · rename_i v w r
    intro cells slots ws H locs lsC stC h1 h2 hr
    obtain ⟨hW, hP, hD, hS, hl, hst⟩ := hr
    obtain ⟨u0, _, rfl, hu0, u1, _, rfl, hu1, hst⟩ := hst
    cases hb : (Nat.beq v.category 1 && Nat.beq w.category 1) with
    | true =>
      rw [hb] at k
      rw [Bool.and_eq_true] at hb
      have c1 := Nat.eq_of_beq_eq_true hb.1
      have c2 := Nat.eq_of_beq_eq_true hb.2
      exact row _ _ _ _ _ _ _ _ ((xv_cat hu0).trans c1) ((xv_cat hu1).trans c2) (hN _ k cells slots ws H locs lsC _ h1 h2 ⟨hW, hP, hD, hS, hl, ⟨_, _, rfl, hu0, _, _, rfl, hu1, _, _, rfl, hu0, _, _, rfl, hu1, hst⟩⟩)
    | false =>
      rw [hb] at k
      cases hb2 : Nat.beq v.category 2 with
      | false => rw [hb2] at k; exact k.1.elim
      | true =>
        rw [hb2] at k
        have c1 := Nat.eq_of_beq_eq_true hb2
        exact row2 _ _ _ _ _ _ _ ((xv_cat hu0).trans c1) (hN _ k cells slots ws H locs lsC _ h1 h2 ⟨hW, hP, hD, hS, hl, ⟨_, _, rfl, hu0, _, _, rfl, hu0, _, _, rfl, hu1, hst⟩⟩)
  · rename_i v
    intro cells slots ws H locs lsC stC h1 h2 hr
    obtain ⟨hW, hP, hD, hS, hl, hst⟩ := hr
    obtain ⟨u0, _, rfl, hu0, hst⟩ := hst
    cases hb2 : Nat.beq v.category 2 with
    | false => rw [hb2] at k; exact k.1.elim
    | true =>
      rw [hb2] at k
      have c1 := Nat.eq_of_beq_eq_true hb2
      exact row2 _ _ _ _ _ _ _ ((xv_cat hu0).trans c1) (hN _ k cells slots ws H locs lsC _ h1 h2 ⟨hW, hP, hD, hS, hl, ⟨_, _, rfl, hu0, _, _, rfl, hu0, hst⟩⟩)
  · exact k.1.elim
end XSO
end
section
/-! cells: one instruction on paper is one instruction of the machine -/
theorem x2_row {α : Type} (f : Nat → Nat → α) (a k : Nat) (x : α) {b : Nat} (h : b ≠ a) : x2 f a k x b = f b := by
  funext j
  unfold x2
  have : Nat.beq b a = false := by
    cases hb : Nat.beq b a with
    | false => rfl
    | true => exact absurd (Nat.eq_of_beq_eq_true hb) h
  rw [this]
  rfl
theorem x2_at {α : Type} (f : Nat → Nat → α) (a k : Nat) (x : α) : x2 f a k x a k = x := by
  unfold x2
  rw [Nat.beq_refl, Nat.beq_refl]
  rfl
theorem x2_ne {α : Type} (f : Nat → Nat → α) (a k : Nat) (x : α) {j : Nat} (h : j ≠ k) : x2 f a k x a j = f a j := by
  unfold x2
  have : Nat.beq j k = false := by
    cases hb : Nat.beq j k with
    | false => rfl
    | true => exact absurd (Nat.eq_of_beq_eq_true hb) h
  rw [this, Bool.and_false]
  rfl
theorem x0_row {α : Type} (f : Nat → Nat → α) (a : Nat) (z : α) {b : Nat} (h : b ≠ a) : x0 f a z b = f b := by
  funext j
  unfold x0
  have : Nat.beq b a = false := by
    cases hb : Nat.beq b a with
    | false => rfl
    | true => exact absurd (Nat.eq_of_beq_eq_true hb) h
  rw [this]
  rfl
theorem x0_at {α : Type} (f : Nat → Nat → α) (a : Nat) (z : α) : x0 f a z a = fun _ => z := by
  funext j
  unfold x0
  rw [Nat.beq_refl]
  rfl
theorem x2_upd (f : Nat → Nat → Int32) (a k : Nat) (x : Int32) : x2 f a k x a = upd (f a) k x := by
  funext j
  by_cases h : j = k
  · subst h; rw [x2_at]; simp [upd]
  · rw [x2_ne _ _ _ _ h]; simp [upd, h]
theorem x2_updL (f : Nat → Nat → Int64) (a k : Nat) (x : Int64) : x2 f a k x a = vp_updL (f a) k x := by
  funext j
  by_cases h : j = k
  · subst h; rw [x2_at]; simp [vp_updL]
  · rw [x2_ne _ _ _ _ h]; simp [vp_updL, h]
theorem x2_updF (f : Nat → Nat → UInt32) (a k : Nat) (x : UInt32) : x2 f a k x a = vf_upd (f a) k x := by
  funext j
  by_cases h : j = k
  · subst h; rw [x2_at]; simp [vf_upd]
  · rw [x2_ne _ _ _ _ h]; simp [vf_upd, h]
theorem xget_row {ty : FieldType} {k a : Nat} {rf : List (Option Nat)} {d d' : xD} (h1 : d'.1 a = d.1 a) (h2 : d'.2.1 a = d.2.1 a) (h3 : d'.2.2 a = d.2.2 a) : xget ty k a rf d' = xget ty k a rf d := by
  cases ty <;> simp only [xget, h1, h2, h3]
theorem xce_row {E : xE} {cA : FieldType → ClassId} {r : Nat → Option Nat} {t : xS} {i : Nat} {d d' : xD} {e : va_E} (h1 : d'.1 i = d.1 i) (h2 : d'.2.1 i = d.2.1 i) (h3 : d'.2.2 i = d.2.2 i) (k : xce E cA r t i d e) : xce E cA r t i d' e := by
  unfold xce at k ⊢
  split at k
  · rw [h1]; exact k
  · rw [h1]; exact k
  · rw [h2]; exact k
  · rw [h3]; exact k
  · exact k
  · exact k
  · obtain ⟨fs, e1, e2, e4, e3⟩ := k
    refine ⟨fs, e1, e2, e4, fun j ty hj => ?_⟩
    rw [xget_row h1 h2 h3]
    exact e3 j ty hj
/-- a cell is written -/
theorem xW_set {E : xE} {ad : Nat → Nat} {cA : FieldType → ClassId} {h h' : xH} {ws : va_W} {a q : Nat} {e e' : va_E} (k : xW E ad cA h ws) (hq : ws[a]? = some (q, e)) (hlen : h'.1.length = h.1.length) (hsh : ∀ i, i ≠ a → h'.1[i]? = h.1[i]?)
    (hd : ∀ i, i ≠ a → h'.2.1 i = h.2.1 i ∧ h'.2.2.1 i = h.2.2.1 i ∧ h'.2.2.2 i = h.2.2.2 i) (hnew : ∀ t, h'.1[a]? = some t → xce E cA (xa ad ws) t a h'.2 e') : xW E ad cA h' (ws.set a (q, e')) := by
  have hl := (List.getElem?_eq_some_iff.mp hq).1
  refine ⟨by rw [List.length_set, hlen]; exact k.1, by rw [hlen]; exact k.2.1, fun i t hi => ?_⟩
  rw [xa_set ad ws hq]
  by_cases hia : i = a
  · subst hia
    exact ⟨q, e', List.getElem?_set_self hl, hnew t hi⟩
  · rw [hsh i hia] at hi
    obtain ⟨b, e2, g1, g2⟩ := k.2.2 i t hi
    obtain ⟨d1, d2, d3⟩ := hd i hia
    exact ⟨b, e2, by rw [List.getElem?_set_ne (Ne.symm hia)]; exact g1, xce_row d1 d2 d3 g2⟩
/-- a cell is made -/
theorem xW_push {E : xE} {ad : Nat → Nat} {cA : FieldType → ClassId} {h : xH} {d' : xD} {ws : va_W} {q : Nat} {e : va_E} {t : xS} (k : xW E ad cA h ws) (hlt : h.1.length + 1 ≤ xt0)
    (hd : ∀ i, i ≠ h.1.length → d'.1 i = h.2.1 i ∧ d'.2.1 i = h.2.2.1 i ∧ d'.2.2 i = h.2.2.2 i) (hnew : xce E cA (xa ad (ws ++ [(q, e)])) t h.1.length d' e) : xW E ad cA (h.1 ++ [t], d') (ws ++ [(q, e)]) := by
  refine ⟨by simp [k.1], by simpa using hlt, fun i u hi => ?_⟩
  have hi : (h.1 ++ [t])[i]? = some u := hi
  by_cases hl : i < h.1.length
  · rw [List.getElem?_append_left hl] at hi
    obtain ⟨b, e2, g1, g2⟩ := k.2.2 i u hi
    obtain ⟨d1, d2, d3⟩ := hd i (by omega)
    exact ⟨b, e2, by rw [List.getElem?_append_left (by rw [k.1]; exact hl)]; exact g1, xce_row d1 d2 d3 (xce_mono (xmon_app ad ws _) g2)⟩
  · rw [List.getElem?_append_right (by omega)] at hi
    have hz : i - h.1.length < 1 := (List.getElem?_eq_some_iff.mp hi).1
    have he : i = h.1.length := by omega
    subst he
    rw [Nat.sub_self] at hi
    cases hi
    exact ⟨q, e, by rw [← k.1, List.getElem?_append_right (Nat.le_refl _), Nat.sub_self]; rfl, hnew⟩
theorem xclr_row (d : xD) (q : Nat) {i : Nat} (h : i ≠ q) : (xclr d q).1 i = d.1 i ∧ (xclr d q).2.1 i = d.2.1 i ∧ (xclr d q).2.2 i = d.2.2 i := ⟨x0_row _ _ _ h, x0_row _ _ _ h, x0_row _ _ _ h⟩
theorem xsz_set {E : xE} {sh : List xS} {a : Nat} {t t' : xS} (h : sh[a]? = some t) (he : xs1 E t' = xs1 E t) : xsz E (sh.set a t') = xsz E sh := by
  unfold xsz
  congr 1
  apply List.ext_getElem?
  intro i
  rw [List.getElem?_map, List.getElem?_map]
  by_cases hi : i = a
  · subst hi
    rw [List.getElem?_set_self (List.getElem?_eq_some_iff.mp h).1, h]
    exact congrArg some he
  · rw [List.getElem?_set_ne (Ne.symm hi)]
theorem xsz_app (E : xE) (a b : List xS) : xsz E (a ++ b) = xsz E a + xsz E b := by simp [xsz, List.sum_append]
/-- what the tables say of the classes -/
def xCL (E : xE) (cl : List vw_C) (TB : List Cond) : Prop := ∀ (ci : Nat) (r : vw_C), cl[ci]? = some r → (∀ w ∈ u_ws r.1 r.2.1 r.2.2, w ∈ TB) ∧ (E.2.1 ci).length = r.2.2 ∧ (∀ k, k < r.2.2 → parseFieldDescriptor (r.2.1 k).2.2.1 = some ((E.2.1 ci).getD k .int)) ∧ (∀ a, a < r.2.2 → ∀ b, b < r.2.2 → a ≠ b → (r.2.1 a).2.1 ≠ (r.2.1 b).2.1) ∧ Cond.instantiable r.1 r.2.2 ∈ TB ∧ Cond.initialized r.1 ∈ TB ∧ ∀ ty ∈ E.2.1 ci, ty ≠ .double
abbrev xNF : Type := String × Nat × String × String × String × String
def xnf (q : xNF) : Cond := .fieldLinkNest q.1 q.2.1 q.2.2.1 q.2.2.2.1 q.2.2.2.2.1 q.2.2.2.2.2
def xLF (TB : List Cond) (TF : List xNF) (own : String) (idx : Nat) (f : String × String × String × Bool) : Prop := Cond.fieldLink own idx f.1 f.2.1 f.2.2.1 ∈ TB ∨ ∃ host, (own, idx, f.1, f.2.1, f.2.2.1, host) ∈ TF
section XSH
variable {p : Program} {l : Launch} {e : Env} {R : Room} {s : State} {m : MethodId} {args : Array Value} {below : List Frame} {meth : Method} {c : Code} {Q : State → Prop}
variable {E : xE} {ad : Nat → Nat} {cA : FieldType → ClassId} {D : va_G} {cl : List vw_C} {A : Nat → Prop} {r0 : Nat → Option Nat} {nL mc ms fin finS : Nat}
variable {rc : Nat → xM → xF → xP → Prop} {rn : xF → xP → Prop} {d : Nat} {Q0 : xP} {pc : Nat} {ls : xL} {st : List Value} {h : xH} {cc : ByteArray} {TB : List Cond} {TF : List xNF} {own : String}
theorem so_gf (hx : p.tables.exec = Jvm.exec) (hb : c.code = cc) (hts : ∀ w ∈ TB, w.before args s = true) (hCL : xCL E cl TB) (hown : s.vm.findClass own = some m.cls) (hK : va_K D cl (xtys cA) s) (hTF : ∀ q ∈ TF, va_Nw (xnf q) s) (hN : ∀ f, rn f Q0 → xG p l e R s m args below meth c Q E ad cA D cl A r0 nL mc ms fin finS f) {ci k idx : Nat} {r : vw_C} (hr : cl[ci]? = some r) (hk : k < r.2.2) (hlk : xLF TB TF own idx (r.2.1 k)) (hdg : decode cc pc = .ok (.getfield idx, 3))
    (kk : xwo E rc rn d Q0 (xgf E (pc + 3) [ci, k] ls st h)) : xG p l e R s m args below meth c Q E ad cA D cl A r0 nL mc ms fin finS (pc, ls, st, h) := by
  replace kk : xwo E rc rn d Q0 (xgft E (pc + 3) ci k ls st h) := kk
  unfold xgft at kk
  split at kk
  · rename_i a rst
    split at kk
    · rename_i c2 rf ty ha hty
      cases hb2 : Nat.beq c2 ci with
      | false => rw [hb2] at kk; exact kk.1.elim
      | true =>
        rw [hb2] at kk
        have := Nat.eq_of_beq_eq_true hb2
        subst this
        intro cells slots ws H locs lsC stC h1 h2 hrel
        obtain ⟨⟨hW, hm⟩, hP, hD, hS, hl, hst⟩ := hrel
        obtain ⟨_, _, rfl, ⟨q, hq, rfl⟩, hst⟩ := hst
        obtain ⟨e9, g1, fs, rfl, g3, g8, g4⟩ := xW_at hW ha hq
        obtain ⟨v, g5, g6⟩ := g4 k ty hty
        obtain ⟨t1, t2, t3, t4, t5, t6, t7⟩ := hCL _ r hr
        have kn := hN _ kk cells slots ws H locs lsC _ h1 h2 ⟨⟨hW, hm⟩, hP, hD, hS, hl, ⟨_, _, rfl, g6, hst⟩⟩
        rcases hlk with hlk | ⟨host, hlk⟩
        · exact va_get (C := r.1) (T := r.2.1) (N := r.2.2) hx hb hts t1 hown hK hP a g1 hr k hk (hts _ hlk) (fun _ h9 => h9) g5 hdg kn
        · exact va_getN (C := r.1) (T := r.2.1) (N := r.2.2) hx hb hts t1 hown hK hP a g1 hr k hk (va_Nw.use rfl (hTF _ hlk)) (fun _ h9 => h9) g5 hdg kn
    · exact kk.1.elim
  · exact kk.1.elim
/-- a field is written: the machine's side -/
theorem so_pfW (hx : p.tables.exec = Jvm.exec) (hb : c.code = cc) (hts : ∀ w ∈ TB, w.before args s = true) (hCL : xCL E cl TB) (hown : s.vm.findClass own = some m.cls) (hK : va_K D cl (xtys cA) s) (hTF : ∀ q ∈ TF, va_Nw (xnf q) s) {ci k idx : Nat} {r : vw_C} (hr : cl[ci]? = some r) (hk : k < r.2.2) (hlk : xLF TB TF own idx (r.2.1 k)) (hfin : (r.2.1 k).2.2.2 = false ∨ (meth.name = "<init>" ∧ (r.2.1 k).1 = own ∧ Cond.fieldLink own idx (r.2.1 k).1 (r.2.1 k).2.1 (r.2.1 k).2.2.1 ∈ TB)) (hdg : decode cc pc = .ok (.putfield idx, 3))
    {cells slots a q : Nat} {ws : va_W} {H : Heap} {locs : List Loc} {lsC : Array Slot} {rest : List Value} {fs : List Value} {v : Value} {ty : FieldType} (hP : va_P D cl ws H) (hD : va_D A ws) (hS : va_S A s.heap H locs) (he : ws[a]? = some (q, .inr (ci, fs))) (hty : (E.2.1 ci)[k]? = some ty) (hl : fs.length = (E.2.1 ci).length) (hn : narrow ty v = v) (hfit : fits ty v = true)
    (kk : ∀ (H1 : Heap) (locs1 : List Loc), va_P D cl (ws.set a (q, .inr (ci, fs.set k v))) H1 → va_D A (ws.set a (q, .inr (ci, fs.set k v))) → va_S A s.heap H1 locs1 → W p l e R s m args below meth c H1 locs1 cells slots Q (F0 m (pc + 3) lsC rest)) : W p l e R s m args below meth c H locs cells slots Q (F0 m pc lsC (v :: .ref q :: rest)) := by
  obtain ⟨t1, t2, t3, t4, t5, t6, t7⟩ := hCL _ r hr
  have hpd : parseFieldDescriptor (r.2.1 k).2.2.1 = some ty := by
    rw [t3 k hk, List.getD_eq_getElem?_getD, hty]
    rfl
  have hkl : k < fs.length := by rw [hl, t2]; exact hk
  rcases hfin with hf | ⟨hf1, hf2, hf3⟩
  · rcases hlk with hlk | ⟨host, hlk⟩
    · exact va_put (C := r.1) (T := r.2.1) (N := r.2.2) hx hb hts t1 (fun k => (E.2.1 ci).getD k .int) t3 t4 hown hK hP hD hS a he hr k hk (hts _ hlk) (fun _ h9 => h9) hf hpd hn hfit hkl hdg kk
    · exact va_putN (C := r.1) (T := r.2.1) (N := r.2.2) hx hb hts t1 (fun k => (E.2.1 ci).getD k .int) t3 t4 hown hK hP hD hS a he hr k hk (va_Nw.use rfl (hTF _ hlk)) (fun _ h9 => h9) hf hpd hn hfit hkl hdg kk
  · cases hb9 : (r.2.1 k).2.2.2 with
    | false => exact va_put (C := r.1) (T := r.2.1) (N := r.2.2) hx hb hts t1 (fun k => (E.2.1 ci).getD k .int) t3 t4 hown hK hP hD hS a he hr k hk (hts _ hf3) (fun _ h9 => h9) hb9 hpd hn hfit hkl hdg kk
    | true => exact va_putF (C := r.1) (T := r.2.1) (N := r.2.2) hx hb hts t1 (fun k => (E.2.1 ci).getD k .int) t3 t4 hown hK hP hD hS a he hr k hk (hts _ hf3) (fun _ h9 => h9) hb9 hf1 hf2 hpd hn hfit hkl hdg kk
/-- a field is written: on paper -/
theorem xce_pf {E : xE} {cA : FieldType → ClassId} {r : Nat → Option Nat} {ci k a : Nat} {rf rf' : List (Option Nat)} {d d' : xD} {fs : List Value} {v w : Value} {ty : FieldType} (h2 : fs.length = (E.2.1 ci).length) (h3 : ∀ (k : Nat) (ty : FieldType), (E.2.1 ci)[k]? = some ty → ∃ v, fs[k]? = some v ∧ xv r (xget ty k a rf d) v)
    (hrf : rf'.length = (E.2.1 ci).length) (hty : (E.2.1 ci)[k]? = some ty) (hv : xv r v w) (hnew : xget ty k a rf' d' = v) (hold : ∀ j t, j ≠ k → (E.2.1 ci)[j]? = some t → xget t j a rf' d' = xget t j a rf d) : xce E cA r (.inr (ci, rf')) a d' (.inr (ci, fs.set k w)) := by
  have hk : k < fs.length := by rw [h2]; exact (List.getElem?_eq_some_iff.mp hty).1
  refine ⟨fs.set k w, rfl, by rw [List.length_set]; exact h2, hrf, fun j t hj => ?_⟩
  by_cases hjk : j = k
  · subst hjk
    cases hty.symm.trans hj
    exact ⟨w, List.getElem?_set_self hk, by rw [hnew]; exact hv⟩
  · rw [List.getElem?_set_ne (Ne.symm hjk), hold j t hjk hj]
    exact h3 j t hj
theorem so_pf (hx : p.tables.exec = Jvm.exec) (hb : c.code = cc) (hts : ∀ w ∈ TB, w.before args s = true) (hCL : xCL E cl TB) (hown : s.vm.findClass own = some m.cls) (hK : va_K D cl (xtys cA) s) (hTF : ∀ q ∈ TF, va_Nw (xnf q) s) (hN : ∀ f, rn f Q0 → xG p l e R s m args below meth c Q E ad cA D cl A r0 nL mc ms fin finS f) {ci k idx : Nat} {r : vw_C} (hr : cl[ci]? = some r) (hk : k < r.2.2) (hlk : xLF TB TF own idx (r.2.1 k)) (hfin : (r.2.1 k).2.2.2 = false ∨ (meth.name = "<init>" ∧ (r.2.1 k).1 = own ∧ Cond.fieldLink own idx (r.2.1 k).1 (r.2.1 k).2.1 (r.2.1 k).2.2.1 ∈ TB)) (hdg : decode cc pc = .ok (.putfield idx, 3))
    (kk : xwo E rc rn d Q0 (xpf E (pc + 3) [ci, k] ls st h)) : xG p l e R s m args below meth c Q E ad cA D cl A r0 nL mc ms fin finS (pc, ls, st, h) := by
  replace kk : xwo E rc rn d Q0 (xpft E (pc + 3) ci k ls st h) := kk
  unfold xpft at kk
  split at kk
  · rename_i v a rst
    split at kk
    · rename_i c2 rf ty ha hty
      cases hb2 : Nat.beq c2 ci with
      | false => rw [hb2] at kk; exact kk.1.elim
      | true =>
        rw [hb2] at kk
        have := Nat.eq_of_beq_eq_true hb2
        subst this
        intro cells slots ws H locs lsC stC h1 h2 hrel
        obtain ⟨⟨hW, hm⟩, hP, hD, hS, hl, hst⟩ := hrel
        obtain ⟨w, _, rfl, hw, _, rstC, rfl, ⟨q, hq, rfl⟩, hst⟩ := hst
        obtain ⟨e9, g1, fs, rfl, g3, g8, g4⟩ := xW_at hW ha hq
        have hlen : a < h.1.length := (List.getElem?_eq_some_iff.mp ha).1
        have row : ∀ (h' : xH), narrow ty w = w → fits ty w = true → h'.1.length = h.1.length → xsz E h'.1 = xsz E h.1 → (∀ i, i ≠ a → h'.1[i]? = h.1[i]?) → (∀ i, i ≠ a → h'.2.1 i = h.2.1 i ∧ h'.2.2.1 i = h.2.2.1 i ∧ h'.2.2.2 i = h.2.2.2 i) → (∃ rf', h'.1[a]? = some (.inr (c2, rf')) ∧ rf'.length = (E.2.1 c2).length ∧ xget ty k a rf' h'.2 = v ∧ ∀ j t, j ≠ k → (E.2.1 c2)[j]? = some t → xget t j a rf' h'.2 = xget t j a rf h.2) → rn (pc + 3, ls, rst, h') Q0 → W p l e R s m args below meth c H locs cells slots Q (F0 m pc lsC (w :: .ref q :: rstC)) := by
          intro h' hn hfit e1 e2 e3 e4 ⟨rf', e5, e55, e6, e7⟩ e8
          refine so_pfW (cells := cells) (slots := slots) hx hb hts hCL hown hK hTF hr hk hlk hfin hdg hP hD hS g1 hty g3 hn hfit (fun H1 locs1 hP1 hD1 hS1 => ?_)
          have hW1 : xW E ad cA h' (ws.set a (q, .inr (c2, fs.set k w))) := xW_set hW g1 e1 e3 e4 (fun t ht => by
            cases e5.symm.trans ht
            exact xce_pf g3 g4 e55 hty hw e6 e7)
          have hmon : xa ad (ws.set a (q, .inr (c2, fs.set k w))) = xa ad ws := xa_set ad ws g1
          exact hN _ e8 cells slots _ H1 locs1 lsC _ (by rw [show (pc + 3, ls, rst, h').2.2.2.1.length = h'.1.length from rfl, e1]; exact h1) (by rw [show xsz E (pc + 3, ls, rst, h').2.2.2.1 = xsz E h'.1 from rfl, e2]; exact h2) ⟨⟨hW1, by rw [hmon]; exact hm⟩, hP1, hD1, hS1, by rw [hmon]; exact hl, by rw [hmon]; exact hst⟩
        have hset : ∀ rf' : List (Option Nat), (h.1.set a (.inr (c2, rf')))[a]? = some (.inr (c2, rf')) := fun rf' => List.getElem?_set_self hlen
        have hoth : ∀ (rf' : List (Option Nat)) (i : Nat), i ≠ a → (h.1.set a (.inr (c2, rf')))[i]? = h.1[i]? := fun rf' i hi => List.getElem?_set_ne (Ne.symm hi)
        have hszs : ∀ rf' : List (Option Nat), xsz E (h.1.set a (.inr (c2, rf'))) = xsz E h.1 := fun rf' => xsz_set ha rfl
        have hkr : k < rf.length := by rw [g8]; exact (List.getElem?_eq_some_iff.mp hty).1
        unfold xwr at kk
        split at kk
        · rename_i x
          obtain rfl := hw
          exact row (h.1, x2 h.2.1 a k x, h.2.2) rfl rfl rfl rfl (fun _ _ => rfl) (fun i hi => ⟨x2_row _ _ _ _ hi, rfl, rfl⟩) ⟨rf, ha, g8, by show Value.int (x2 h.2.1 a k x a k) = _; rw [x2_at], fun j t hj _ => by cases t <;> simp only [xget, x2_ne _ _ _ _ hj]⟩ kk
        · rename_i x
          obtain rfl := hw
          have hx01 := kk.1
          exact row (h.1, x2 h.2.1 a k x, h.2.2) (by rcases hx01 with rfl | rfl <;> rfl) (by rcases hx01 with rfl | rfl <;> rfl) rfl rfl (fun _ _ => rfl) (fun i hi => ⟨x2_row _ _ _ _ hi, rfl, rfl⟩) ⟨rf, ha, g8, by show Value.int (x2 h.2.1 a k x a k) = _; rw [x2_at], fun j t hj _ => by cases t <;> simp only [xget, x2_ne _ _ _ _ hj]⟩ kk.2
        · rename_i x
          obtain rfl := hw
          exact row (h.1, h.2.1, x2 h.2.2.1 a k x, h.2.2.2) rfl rfl rfl rfl (fun _ _ => rfl) (fun i hi => ⟨rfl, x2_row _ _ _ _ hi, rfl⟩) ⟨rf, ha, g8, by show Value.long (x2 h.2.2.1 a k x a k) = _; rw [x2_at], fun j t hj _ => by cases t <;> simp only [xget, x2_ne _ _ _ _ hj]⟩ kk
        · rename_i x
          obtain rfl := hw
          exact row (h.1, h.2.1, h.2.2.1, x2 h.2.2.2 a k x) rfl rfl rfl rfl (fun _ _ => rfl) (fun i hi => ⟨rfl, rfl, x2_row _ _ _ _ hi⟩) ⟨rf, ha, g8, by show Value.float (x2 h.2.2.2 a k x a k) = _; rw [x2_at], fun j t hj _ => by cases t <;> simp only [xget, x2_ne _ _ _ _ hj]⟩ kk
        · rename_i C x
          obtain ⟨q2, hq2, rfl⟩ := hw
          exact row (h.1.set a (.inr (c2, rf.set k (some x))), h.2) rfl rfl (by simp) (hszs _) (fun i hi => hoth _ i hi) (fun _ _ => ⟨rfl, rfl, rfl⟩) ⟨rf.set k (some x), hset _, by rw [List.length_set]; exact g8, by show xrv (rf.set k (some x))[k]? = _; rw [List.getElem?_set_self hkr]; rfl, fun j t hj _ => by cases t <;> simp only [xget, List.getElem?_set_ne (Ne.symm hj)]⟩ kk
        · rename_i C x
          obtain ⟨q2, hq2, rfl⟩ := hw
          exact row (h.1.set a (.inr (c2, rf.set k (some x))), h.2) rfl rfl (by simp) (hszs _) (fun i hi => hoth _ i hi) (fun _ _ => ⟨rfl, rfl, rfl⟩) ⟨rf.set k (some x), hset _, by rw [List.length_set]; exact g8, by show xrv (rf.set k (some x))[k]? = _; rw [List.getElem?_set_self hkr]; rfl, fun j t hj _ => by cases t <;> simp only [xget, List.getElem?_set_ne (Ne.symm hj)]⟩ kk
        · rename_i C
          obtain rfl := hw
          exact row (h.1.set a (.inr (c2, rf.set k none)), h.2) rfl rfl (by simp) (hszs _) (fun i hi => hoth _ i hi) (fun _ _ => ⟨rfl, rfl, rfl⟩) ⟨rf.set k none, hset _, by rw [List.length_set]; exact g8, by show xrv (rf.set k none)[k]? = _; rw [List.getElem?_set_self hkr]; rfl, fun j t hj _ => by cases t <;> simp only [xget, List.getElem?_set_ne (Ne.symm hj)]⟩ kk
        · rename_i C
          obtain rfl := hw
          exact row (h.1.set a (.inr (c2, rf.set k none)), h.2) rfl rfl (by simp) (hszs _) (fun i hi => hoth _ i hi) (fun _ _ => ⟨rfl, rfl, rfl⟩) ⟨rf.set k none, hset _, by rw [List.length_set]; exact g8, by show xrv (rf.set k none)[k]? = _; rw [List.getElem?_set_self hkr]; rfl, fun j t hj _ => by cases t <;> simp only [xget, List.getElem?_set_ne (Ne.symm hj)]⟩ kk
        · exact kk.1.elim
    · exact kk.1.elim
  · exact kk.1.elim
theorem so_aldI (hx : p.tables.exec = Jvm.exec) (hb : c.code = cc) (hK : va_K D cl (xtys cA) s) (hN : ∀ f, rn f Q0 → xG p l e R s m args below meth c Q E ad cA D cl A r0 nL mc ms fin finS f) (hdg : decode cc pc = .ok (.iaload, 1)) (kk : xwo E rc rn d Q0 (xaldI (pc + 1) ls st h)) : xG p l e R s m args below meth c Q E ad cA D cl A r0 nL mc ms fin finS (pc, ls, st, h) := by
  unfold xaldI at kk
  split at kk
  · rename_i i a rst
    split at kk
    · rename_i n rs ha
      intro cells slots ws H locs lsC stC h1 h2 hrel
      obtain ⟨⟨hW, hm⟩, hP, hD, hS, hl, hst⟩ := hrel
      obtain ⟨_, _, rfl, rfl, _, _, rfl, ⟨q, hq, rfl⟩, hst⟩ := hst
      obtain ⟨e9, g1, rfl⟩ := xW_at hW ha hq
      exact va_iald hx hb hK hP a 0 g1 rfl kk.1 hdg (hN _ kk.2 cells slots ws H locs lsC _ h1 h2 ⟨⟨hW, hm⟩, hP, hD, hS, hl, ⟨_, _, rfl, rfl, hst⟩⟩)
    · exact kk.1.elim
  · exact kk.1.elim
theorem so_aldB (hx : p.tables.exec = Jvm.exec) (hb : c.code = cc) (hK : va_K D cl (xtys cA) s) (hN : ∀ f, rn f Q0 → xG p l e R s m args below meth c Q E ad cA D cl A r0 nL mc ms fin finS f) (hdg : decode cc pc = .ok (.baload, 1)) (kk : xwo E rc rn d Q0 (xaldB (pc + 1) ls st h)) : xG p l e R s m args below meth c Q E ad cA D cl A r0 nL mc ms fin finS (pc, ls, st, h) := by
  unfold xaldB at kk
  split at kk
  · rename_i i a rst
    split at kk
    · rename_i n rs ha
      intro cells slots ws H locs lsC stC h1 h2 hrel
      obtain ⟨⟨hW, hm⟩, hP, hD, hS, hl, hst⟩ := hrel
      obtain ⟨_, _, rfl, rfl, _, _, rfl, ⟨q, hq, rfl⟩, hst⟩ := hst
      obtain ⟨e9, g1, rfl⟩ := xW_at hW ha hq
      exact va_bald hx hb hK hP a 1 g1 rfl kk.1 hdg (hN _ kk.2 cells slots ws H locs lsC _ h1 h2 ⟨⟨hW, hm⟩, hP, hD, hS, hl, ⟨_, _, rfl, rfl, hst⟩⟩)
    · exact kk.1.elim
  · exact kk.1.elim
theorem so_aldL (hx : p.tables.exec = Jvm.exec) (hb : c.code = cc) (hK : va_K D cl (xtys cA) s) (hN : ∀ f, rn f Q0 → xG p l e R s m args below meth c Q E ad cA D cl A r0 nL mc ms fin finS f) (hdg : decode cc pc = .ok (.laload, 1)) (kk : xwo E rc rn d Q0 (xaldL (pc + 1) ls st h)) : xG p l e R s m args below meth c Q E ad cA D cl A r0 nL mc ms fin finS (pc, ls, st, h) := by
  unfold xaldL at kk
  split at kk
  · rename_i i a rst
    split at kk
    · rename_i n rs ha
      intro cells slots ws H locs lsC stC h1 h2 hrel
      obtain ⟨⟨hW, hm⟩, hP, hD, hS, hl, hst⟩ := hrel
      obtain ⟨_, _, rfl, rfl, _, _, rfl, ⟨q, hq, rfl⟩, hst⟩ := hst
      obtain ⟨e9, g1, rfl⟩ := xW_at hW ha hq
      exact va_lald hx hb hK hP a 2 g1 rfl kk.1 hdg (hN _ kk.2 cells slots ws H locs lsC _ h1 h2 ⟨⟨hW, hm⟩, hP, hD, hS, hl, ⟨_, _, rfl, rfl, hst⟩⟩)
    · exact kk.1.elim
  · exact kk.1.elim
theorem so_aldF (hx : p.tables.exec = Jvm.exec) (hb : c.code = cc) (hK : va_K D cl (xtys cA) s) (hN : ∀ f, rn f Q0 → xG p l e R s m args below meth c Q E ad cA D cl A r0 nL mc ms fin finS f) (hdg : decode cc pc = .ok (.faload, 1)) (kk : xwo E rc rn d Q0 (xaldF (pc + 1) ls st h)) : xG p l e R s m args below meth c Q E ad cA D cl A r0 nL mc ms fin finS (pc, ls, st, h) := by
  unfold xaldF at kk
  split at kk
  · rename_i i a rst
    split at kk
    · rename_i n rs ha
      intro cells slots ws H locs lsC stC h1 h2 hrel
      obtain ⟨⟨hW, hm⟩, hP, hD, hS, hl, hst⟩ := hrel
      obtain ⟨_, _, rfl, rfl, _, _, rfl, ⟨q, hq, rfl⟩, hst⟩ := hst
      obtain ⟨e9, g1, rfl⟩ := xW_at hW ha hq
      exact va_fald hx hb hK hP a 3 g1 rfl kk.1 hdg (hN _ kk.2 cells slots ws H locs lsC _ h1 h2 ⟨⟨hW, hm⟩, hP, hD, hS, hl, ⟨_, _, rfl, rfl, hst⟩⟩)
    · exact kk.1.elim
  · exact kk.1.elim
theorem so_aldA (hx : p.tables.exec = Jvm.exec) (hb : c.code = cc) (hK : va_K D cl (xtys cA) s) (hN : ∀ f, rn f Q0 → xG p l e R s m args below meth c Q E ad cA D cl A r0 nL mc ms fin finS f) (hdg : decode cc pc = .ok (.aaload, 1)) (kk : xwo E rc rn d Q0 (xaldA (pc + 1) ls st h)) : xG p l e R s m args below meth c Q E ad cA D cl A r0 nL mc ms fin finS (pc, ls, st, h) := by
  unfold xaldA at kk
  split at kk
  · rename_i i a rst
    split at kk
    · rename_i n rs ha
      intro cells slots ws H locs lsC stC h1 h2 hrel
      obtain ⟨⟨hW, hm⟩, hP, hD, hS, hl, hst⟩ := hrel
      obtain ⟨_, _, rfl, rfl, _, _, rfl, ⟨q, hq, rfl⟩, hst⟩ := hst
      obtain ⟨e9, g1, f, rfl, g3⟩ := xW_at hW ha hq
      have hin := kk.1
      have hlt : i.toNatClampNeg < n := Nat.not_le.mp fun q => hin (Or.inr q)
      have hf := g3 _ hlt
      have hv : xv (xa ad ws) (xrv rs[i.toNatClampNeg]?) (va_rf (f i.toNatClampNeg)) := by
        unfold xqr at hf
        split at hf
        · rename_i k9 hk9
          obtain ⟨a9, e1, e2⟩ := hf
          rw [hk9, e2]
          exact ⟨a9, e1, rfl⟩
        · rename_i hk9
          rw [hf]
          cases hz : rs[i.toNatClampNeg]? with
          | none => rfl
          | some o =>
            cases o with
            | none => rfl
            | some k9 => exact absurd hz (hk9 k9)
      exact W.aald (v := va_rf (f i.toNatClampNeg)) (ty := .array .float) hx hb (hP a _ g1) ((hK.2 4 _ rfl).1 n (fun j => va_rf (f j))) rfl (fun q => by cases q) (by show ¬ (i < 0 ∨ (arrV _ _ _).slots.size ≤ _); rw [arrV_size]; exact hin) (by show (arrV _ _ _).slots[_]? = _; rw [arrV_read _ _ hlt]) rfl rfl hdg (hN _ kk.2 cells slots ws H locs lsC _ h1 h2 ⟨⟨hW, hm⟩, hP, hD, hS, hl, ⟨_, _, rfl, hv, hst⟩⟩)
    · exact kk.1.elim
  · exact kk.1.elim
theorem so_astI (hx : p.tables.exec = Jvm.exec) (hb : c.code = cc) (hK : va_K D cl (xtys cA) s) (hN : ∀ f, rn f Q0 → xG p l e R s m args below meth c Q E ad cA D cl A r0 nL mc ms fin finS f) (hdg : decode cc pc = .ok (.iastore, 1)) (kk : xwo E rc rn d Q0 (xastI (pc + 1) ls st h)) : xG p l e R s m args below meth c Q E ad cA D cl A r0 nL mc ms fin finS (pc, ls, st, h) := by
  unfold xastI at kk
  split at kk
  · rename_i x i a rst
    split at kk
    · rename_i n rs ha
      intro cells slots ws H locs lsC stC h1 h2 hrel
      obtain ⟨⟨hW, hm⟩, hP, hD, hS, hl, hst⟩ := hrel
      obtain ⟨_, _, rfl, rfl, _, _, rfl, rfl, _, _, rfl, ⟨q, hq, rfl⟩, hst⟩ := hst
      obtain ⟨e9, g1, rfl⟩ := xW_at hW ha hq
      refine va_iast hx hb hK hP hD hS a 0 g1 rfl kk.1 hdg (fun H1 locs1 hP1 hD1 hS1 => ?_)
      have hmon : ∀ e9 : va_E, xa ad (ws.set a (q, e9)) = xa ad ws := fun e9 => xa_set ad ws (e := e9) g1
      refine hN _ kk.2 cells slots _ H1 locs1 lsC _ h1 h2 ⟨⟨xW_set (h' := (h.1, x2 h.2.1 a i.toNatClampNeg x, h.2.2)) hW g1 rfl (fun _ _ => rfl) (fun i hi => ⟨x2_row _ _ _ _ hi, rfl, rfl⟩) (fun t ht => ?_), by rw [hmon]; exact hm⟩, hP1, hD1, hS1, by rw [hmon]; exact hl, by rw [hmon]; exact hst⟩
      cases ha.symm.trans ht
      have e9 := x2_upd h.2.1 a i.toNatClampNeg x
      show _ = Sum.inl (cA .int, n, Sum.inl (x2 h.2.1 a i.toNatClampNeg x a))
      first | (rw [e9]; done) | (rw [e9]; rfl)
    · exact kk.1.elim
  · exact kk.1.elim
theorem so_astB (hx : p.tables.exec = Jvm.exec) (hb : c.code = cc) (hK : va_K D cl (xtys cA) s) (hN : ∀ f, rn f Q0 → xG p l e R s m args below meth c Q E ad cA D cl A r0 nL mc ms fin finS f) (hdg : decode cc pc = .ok (.bastore, 1)) (kk : xwo E rc rn d Q0 (xastB (pc + 1) ls st h)) : xG p l e R s m args below meth c Q E ad cA D cl A r0 nL mc ms fin finS (pc, ls, st, h) := by
  unfold xastB at kk
  split at kk
  · rename_i x i a rst
    split at kk
    · rename_i n rs ha
      intro cells slots ws H locs lsC stC h1 h2 hrel
      obtain ⟨⟨hW, hm⟩, hP, hD, hS, hl, hst⟩ := hrel
      obtain ⟨_, _, rfl, rfl, _, _, rfl, rfl, _, _, rfl, ⟨q, hq, rfl⟩, hst⟩ := hst
      obtain ⟨e9, g1, rfl⟩ := xW_at hW ha hq
      refine va_bast hx hb hK hP hD hS a 1 g1 rfl kk.1 hdg (fun H1 locs1 hP1 hD1 hS1 => ?_)
      have hmon : ∀ e9 : va_E, xa ad (ws.set a (q, e9)) = xa ad ws := fun e9 => xa_set ad ws (e := e9) g1
      refine hN _ kk.2 cells slots _ H1 locs1 lsC _ h1 h2 ⟨⟨xW_set (h' := (h.1, x2 h.2.1 a i.toNatClampNeg x.toInt8.toInt32, h.2.2)) hW g1 rfl (fun _ _ => rfl) (fun i hi => ⟨x2_row _ _ _ _ hi, rfl, rfl⟩) (fun t ht => ?_), by rw [hmon]; exact hm⟩, hP1, hD1, hS1, by rw [hmon]; exact hl, by rw [hmon]; exact hst⟩
      cases ha.symm.trans ht
      have e9 := x2_upd h.2.1 a i.toNatClampNeg x.toInt8.toInt32
      show _ = Sum.inl (cA .byte, n, Sum.inl (x2 h.2.1 a i.toNatClampNeg x.toInt8.toInt32 a))
      first | (rw [e9]; done) | (rw [e9]; rfl)
    · exact kk.1.elim
  · exact kk.1.elim
theorem so_astL (hx : p.tables.exec = Jvm.exec) (hb : c.code = cc) (hK : va_K D cl (xtys cA) s) (hN : ∀ f, rn f Q0 → xG p l e R s m args below meth c Q E ad cA D cl A r0 nL mc ms fin finS f) (hdg : decode cc pc = .ok (.lastore, 1)) (kk : xwo E rc rn d Q0 (xastL (pc + 1) ls st h)) : xG p l e R s m args below meth c Q E ad cA D cl A r0 nL mc ms fin finS (pc, ls, st, h) := by
  unfold xastL at kk
  split at kk
  · rename_i x i a rst
    split at kk
    · rename_i n rs ha
      intro cells slots ws H locs lsC stC h1 h2 hrel
      obtain ⟨⟨hW, hm⟩, hP, hD, hS, hl, hst⟩ := hrel
      obtain ⟨_, _, rfl, rfl, _, _, rfl, rfl, _, _, rfl, ⟨q, hq, rfl⟩, hst⟩ := hst
      obtain ⟨e9, g1, rfl⟩ := xW_at hW ha hq
      refine va_last hx hb hK hP hD hS a 2 g1 rfl kk.1 hdg (fun H1 locs1 hP1 hD1 hS1 => ?_)
      have hmon : ∀ e9 : va_E, xa ad (ws.set a (q, e9)) = xa ad ws := fun e9 => xa_set ad ws (e := e9) g1
      refine hN _ kk.2 cells slots _ H1 locs1 lsC _ h1 h2 ⟨⟨xW_set (h' := (h.1, h.2.1, x2 h.2.2.1 a i.toNatClampNeg x, h.2.2.2)) hW g1 rfl (fun _ _ => rfl) (fun i hi => ⟨rfl, x2_row _ _ _ _ hi, rfl⟩) (fun t ht => ?_), by rw [hmon]; exact hm⟩, hP1, hD1, hS1, by rw [hmon]; exact hl, by rw [hmon]; exact hst⟩
      cases ha.symm.trans ht
      have e9 := x2_updL h.2.2.1 a i.toNatClampNeg x
      show _ = Sum.inl (cA .long, n, Sum.inr (Sum.inl (x2 h.2.2.1 a i.toNatClampNeg x a)))
      first | (rw [e9]; done) | (rw [e9]; rfl)
    · exact kk.1.elim
  · exact kk.1.elim
theorem so_astF (hx : p.tables.exec = Jvm.exec) (hb : c.code = cc) (hK : va_K D cl (xtys cA) s) (hN : ∀ f, rn f Q0 → xG p l e R s m args below meth c Q E ad cA D cl A r0 nL mc ms fin finS f) (hdg : decode cc pc = .ok (.fastore, 1)) (kk : xwo E rc rn d Q0 (xastF (pc + 1) ls st h)) : xG p l e R s m args below meth c Q E ad cA D cl A r0 nL mc ms fin finS (pc, ls, st, h) := by
  unfold xastF at kk
  split at kk
  · rename_i x i a rst
    split at kk
    · rename_i n rs ha
      intro cells slots ws H locs lsC stC h1 h2 hrel
      obtain ⟨⟨hW, hm⟩, hP, hD, hS, hl, hst⟩ := hrel
      obtain ⟨_, _, rfl, rfl, _, _, rfl, rfl, _, _, rfl, ⟨q, hq, rfl⟩, hst⟩ := hst
      obtain ⟨e9, g1, rfl⟩ := xW_at hW ha hq
      refine va_fast hx hb hK hP hD hS a 3 g1 rfl kk.1 hdg (fun H1 locs1 hP1 hD1 hS1 => ?_)
      have hmon : ∀ e9 : va_E, xa ad (ws.set a (q, e9)) = xa ad ws := fun e9 => xa_set ad ws (e := e9) g1
      refine hN _ kk.2 cells slots _ H1 locs1 lsC _ h1 h2 ⟨⟨xW_set (h' := (h.1, h.2.1, h.2.2.1, x2 h.2.2.2 a i.toNatClampNeg x)) hW g1 rfl (fun _ _ => rfl) (fun i hi => ⟨rfl, rfl, x2_row _ _ _ _ hi⟩) (fun t ht => ?_), by rw [hmon]; exact hm⟩, hP1, hD1, hS1, by rw [hmon]; exact hl, by rw [hmon]; exact hst⟩
      cases ha.symm.trans ht
      have e9 := x2_updF h.2.2.2 a i.toNatClampNeg x
      show _ = Sum.inl (cA .float, n, Sum.inr (Sum.inr (Sum.inl (x2 h.2.2.2 a i.toNatClampNeg x a))))
      first | (rw [e9]; done) | (rw [e9]; rfl)
    · exact kk.1.elim
  · exact kk.1.elim
theorem so_aln (hx : p.tables.exec = Jvm.exec) (hb : c.code = cc) (hK : va_K D cl (xtys cA) s) (hN : ∀ f, rn f Q0 → xG p l e R s m args below meth c Q E ad cA D cl A r0 nL mc ms fin finS f) (hdg : decode cc pc = .ok (.arraylength, 1)) (kk : xwo E rc rn d Q0 (xaln (pc + 1) ls st h)) : xG p l e R s m args below meth c Q E ad cA D cl A r0 nL mc ms fin finS (pc, ls, st, h) := by
  unfold xaln at kk
  split at kk
  · rename_i a rst
    split at kk
    · rename_i ty n rs ha
      intro cells slots ws H locs lsC stC h1 h2 hrel
      obtain ⟨⟨hW, hm⟩, hP, hD, hS, hl, hst⟩ := hrel
      obtain ⟨_, _, rfl, ⟨q, hq, rfl⟩, hst⟩ := hst
      obtain ⟨e9, g1, g2⟩ := xW_at hW ha hq
      have kn := hN _ kk cells slots ws H locs lsC _ h1 h2 ⟨⟨hW, hm⟩, hP, hD, hS, hl, ⟨_, _, rfl, rfl, hst⟩⟩
      unfold xce at g2
      split at g2
      · rename_i he; cases he; subst g2; exact va_alen hx hb hK hP a 0 g1 rfl rfl hdg kn
      · rename_i he; cases he; subst g2; exact va_alen hx hb hK hP a 1 g1 rfl rfl hdg kn
      · rename_i he; cases he; subst g2; exact va_alen hx hb hK hP a 2 g1 rfl rfl hdg kn
      · rename_i he; cases he; subst g2; exact va_alen hx hb hK hP a 3 g1 rfl rfl hdg kn
      · rename_i he; cases he; obtain ⟨f, rfl, g3⟩ := g2; exact va_alen hx hb hK hP a 4 g1 rfl rfl hdg kn
      · exact g2.elim
      · rename_i he; cases he
    · exact kk.1.elim
  · exact kk.1.elim
theorem so_new (hx : p.tables.exec = Jvm.exec) (hb : c.code = cc) (hts : ∀ w ∈ TB, w.before args s = true) (hCL : xCL E cl TB) (hown : s.vm.findClass own = some m.cls) (hK : va_K D cl (xtys cA) s) (hA : ∀ q, s.heap.size ≤ q → A q) (hlen : ∀ f : xF, rn f Q0 → f.2.2.2.1.length ≤ fin ∧ xsz E f.2.2.2.1 ≤ finS) (hfin : fin ≤ xt0) (hRc : R.cells = mc) (hRs : R.slots = ms) (hN : ∀ f, rn f Q0 → xG p l e R s m args below meth c Q E ad cA D cl A r0 nL mc ms fin finS f) {ci idx : Nat} {r : vw_C} (hr : cl[ci]? = some r) (hlk : Cond.classLink own idx r.1 ∈ TB) (hdg : decode cc pc = .ok (.new idx, 3))
    (kk : xwo E rc rn d Q0 (xnew E (pc + 3) [ci] ls st h)) : xG p l e R s m args below meth c Q E ad cA D cl A r0 nL mc ms fin finS (pc, ls, st, h) := by
  have kk : rn (pc + 3, ls, .ref h.1.length :: st, h.1 ++ [.inr (ci, (E.2.1 ci).map fun _ => none)], xclr h.2 h.1.length) Q0 := kk
  obtain ⟨hl1, hl2⟩ := hlen _ kk
  have hl1 : (h.1 ++ [Sum.inr (ci, (E.2.1 ci).map fun _ => none)]).length ≤ fin := hl1
  have hl2 : xsz E (h.1 ++ [Sum.inr (ci, (E.2.1 ci).map fun _ => none)]) ≤ finS := hl2
  rw [xsz_app] at hl2
  rw [List.length_append] at hl1
  have hone : xsz E [Sum.inr (ci, (E.2.1 ci).map fun _ => none)] = (E.2.1 ci).length := by simp [xsz, xs1]
  rw [hone] at hl2
  simp only [List.length_cons, List.length_nil] at hl1
  obtain ⟨t1, t2, t3, t4, t5, t6, t7⟩ := hCL _ r hr
  intro cells slots ws H locs lsC stC h1 h2 hrel
  obtain ⟨⟨hW, hm⟩, hP, hD, hS, hl, hst⟩ := hrel
  have h1 : cells + fin ≤ mc + h.1.length := h1
  have h2 : slots + finS ≤ ms + xsz E h.1 := h2
  refine va_new (C := r.1) (T := r.2.1) (N := r.2.2) (fs := (E.2.1 ci).map defaultValue) hx hb hts t1 (fun k => (E.2.1 ci).getD k .int) t3 hown (hts _ hlk) (hts _ t5) (hts _ t6) hK hP hD hS hA hr (fun j hj => ?_) (by rw [hRc]; omega) (by rw [hRs, ← t2]; omega) hdg (fun q H1 hP1 hD1 hS1 => ?_)
  · have hj2 : j < (E.2.1 ci).length := by rw [t2]; exact hj
    simp [vp_V, List.getD_eq_getElem?_getD, hj2]
  · have hmon := xmon_app ad ws [(q, Sum.inr (ci, (E.2.1 ci).map defaultValue))]
    have hW1 : xW E ad cA (h.1 ++ [Sum.inr (ci, (E.2.1 ci).map fun _ => none)], xclr h.2 h.1.length) (ws ++ [(q, Sum.inr (ci, (E.2.1 ci).map defaultValue))]) := by
      refine xW_push hW (by omega) (fun i hi => xclr_row _ _ hi) ⟨_, rfl, by simp, by simp, fun k ty hk => ?_⟩
      refine ⟨defaultValue ty, by rw [List.getElem?_map, hk]; rfl, ?_⟩
      have hnd := t7 ty (List.mem_of_getElem? hk)
      have hrk : xrv ((E.2.1 ci).map fun _ => (none : Option Nat))[k]? = .null := by rw [List.getElem?_map, hk]; rfl
      cases ty <;> first | exact absurd rfl hnd | (show _ = _; simp only [xget, xclr, x0_at, defaultValue]) | (show xv _ (xrv _) _; rw [hrk]; rfl)
    rw [← t2]
    refine hN _ kk (cells + 1) (slots + (E.2.1 ci).length) _ H1 locs lsC _ ?_ ?_ ⟨⟨hW1, fun k a z => hmon _ _ (hm k a z)⟩, hP1, hD1, hS1, xls_mono hmon hl, ⟨_, _, rfl, ⟨q, ?_, rfl⟩, xva_mono hmon hst⟩⟩
    · show cells + 1 + fin ≤ mc + (h.1 ++ [_]).length
      rw [List.length_append, List.length_cons, List.length_nil]; omega
    · show slots + _ + finS ≤ ms + xsz E (h.1 ++ [_])
      rw [xsz_app, hone]; omega
    · exact xa_of (show h.1.length < xt0 by omega) (by rw [← hW.1, List.getElem?_append_right (Nat.le_refl _), Nat.sub_self]; rfl)
theorem so_nar (hx : p.tables.exec = Jvm.exec) (hb : c.code = cc) (hts : ∀ w ∈ TB, w.before args s = true) (hK : va_K D cl (xtys cA) s) (hA : ∀ q, s.heap.size ≤ q → A q) (hAC : ∀ a : ArrayType, xoka (xty a) = true → Cond.arrayClass (xty a) ∈ TB) (hlen : ∀ f : xF, rn f Q0 → f.2.2.2.1.length ≤ fin ∧ xsz E f.2.2.2.1 ≤ finS) (hfin : fin ≤ xt0) (hRc : R.cells = mc) (hRs : R.slots = ms) (hN : ∀ f, rn f Q0 → xG p l e R s m args below meth c Q E ad cA D cl A r0 nL mc ms fin finS f) {at_ : ArrayType} (hdg : decode cc pc = .ok (.newarray at_, 2))
    (kk : xwo E rc rn d Q0 (xnar (xty at_) (pc + 2) ls st h)) : xG p l e R s m args below meth c Q E ad cA D cl A r0 nL mc ms fin finS (pc, ls, st, h) := by
  unfold xnar at kk
  split at kk
  · rename_i n rst
    cases hok : xoka (xty at_) with
    | false => rw [hok] at kk; exact kk.1.elim
    | true =>
      rw [hok] at kk
      obtain ⟨⟨hn0, hn1⟩, kk⟩ := kk
      have kk : rn (pc + 2, ls, .ref h.1.length :: rst, h.1 ++ [.inl (xty at_, n.toNatClampNeg, [])], xclr h.2 h.1.length) Q0 := kk
      obtain ⟨hl1, hl2⟩ := hlen _ kk
      have hl1 : (h.1 ++ [Sum.inl (xty at_, n.toNatClampNeg, [])]).length ≤ fin := hl1
      have hl2 : xsz E (h.1 ++ [Sum.inl (xty at_, n.toNatClampNeg, [])]) ≤ finS := hl2
      rw [xsz_app] at hl2
      rw [List.length_append] at hl1
      have hone : xsz E [Sum.inl (xty at_, n.toNatClampNeg, [])] = n.toNatClampNeg := by simp [xsz, xs1]
      rw [hone] at hl2
      simp only [List.length_cons, List.length_nil] at hl1
      intro cells slots ws H locs lsC stC h1 h2 hrel
      obtain ⟨⟨hW, hm⟩, hP, hD, hS, hl, hst⟩ := hrel
      obtain ⟨_, rstC, rfl, rfl, hst⟩ := hst
      have h1 : cells + fin ≤ mc + h.1.length := h1
      have h2 : slots + finS ≤ ms + xsz E h.1 := h2
      have fin9 : ∀ (q : Nat) (H1 : Heap) (a0 : vp_A), va_P D cl (ws ++ [(q, .inl (cA (xty at_), a0))]) H1 → va_D A (ws ++ [(q, .inl (cA (xty at_), a0))]) → va_S A s.heap H1 locs → xce E cA (xa ad (ws ++ [(q, .inl (cA (xty at_), a0))])) (.inl (xty at_, n.toNatClampNeg, [])) h.1.length (xclr h.2 h.1.length) (.inl (cA (xty at_), a0)) → W p l e R s m args below meth c H1 locs (cells + 1) (slots + n.toNatClampNeg) Q (F0 m (pc + 2) lsC (.ref q :: rstC)) := by
        intro q H1 a0 hP1 hD1 hS1 hce
        have hmon := xmon_app ad ws [(q, Sum.inl (cA (xty at_), a0))]
        refine hN _ kk (cells + 1) (slots + n.toNatClampNeg) _ H1 locs lsC _ ?_ ?_ ⟨⟨xW_push hW (by omega) (fun i hi => xclr_row _ _ hi) hce, fun k a z => hmon _ _ (hm k a z)⟩, hP1, hD1, hS1, xls_mono hmon hl, ⟨_, _, rfl, ⟨q, ?_, rfl⟩, xva_mono hmon hst⟩⟩
        · show cells + 1 + fin ≤ mc + (h.1 ++ [_]).length
          rw [List.length_append, List.length_cons, List.length_nil]; omega
        · show slots + _ + finS ≤ ms + xsz E (h.1 ++ [_])
          rw [xsz_app, hone]; omega
        · exact xa_of (show h.1.length < xt0 by omega) (by rw [← hW.1, List.getElem?_append_right (Nat.le_refl _), Nat.sub_self]; rfl)
      have hac := hts _ (hAC at_ hok)
      cases at_ with
      | int =>
        refine va_newa (a0 := (n.toNatClampNeg, .inl (fun _ => 0))) (ty := .int) (atype := .int) hx hb hac rfl hK hP hD hS hA (fun _ => rfl) hn0 rfl (by show _ * 4 ≤ _; omega) (by rw [hRc]; omega) (by rw [hRs]; omega) hdg (fun q c9 H1 hK1 hP1 hD1 hS1 => ?_)
        have e1 : s.vm.findClass ("[" ++ (FieldType.int).toString) = some c9 := (hK1.2 5 _ rfl).2
        have e2 : s.vm.findClass ("[" ++ (FieldType.int).toString) = some (cA .int) := (hK.2 0 _ rfl).2
        cases e1.symm.trans e2
        exact fin9 q H1 _ hP1 hD1 hS1 (by show _ = _; rw [show (xclr h.2 h.1.length).1 h.1.length = fun _ => 0 from x0_at _ _ _]; rfl)
      | byte =>
        refine va_newa (a0 := (n.toNatClampNeg, .inl (fun _ => 0))) (ty := .byte) (atype := .byte) hx hb hac rfl hK hP hD hS hA (fun _ => rfl) hn0 rfl (by show _ * 1 ≤ _; omega) (by rw [hRc]; omega) (by rw [hRs]; omega) hdg (fun q c9 H1 hK1 hP1 hD1 hS1 => ?_)
        have e1 : s.vm.findClass ("[" ++ (FieldType.byte).toString) = some c9 := (hK1.2 5 _ rfl).2
        have e2 : s.vm.findClass ("[" ++ (FieldType.byte).toString) = some (cA .byte) := (hK.2 1 _ rfl).2
        cases e1.symm.trans e2
        exact fin9 q H1 _ hP1 hD1 hS1 (by show _ = _; rw [show (xclr h.2 h.1.length).1 h.1.length = fun _ => 0 from x0_at _ _ _]; rfl)
      | long =>
        refine va_newa (a0 := (n.toNatClampNeg, .inr (.inl (fun _ => 0)))) (ty := .long) (atype := .long) hx hb hac rfl hK hP hD hS hA (fun _ => rfl) hn0 rfl (by show _ * 8 ≤ _; omega) (by rw [hRc]; omega) (by rw [hRs]; omega) hdg (fun q c9 H1 hK1 hP1 hD1 hS1 => ?_)
        have e1 : s.vm.findClass ("[" ++ (FieldType.long).toString) = some c9 := (hK1.2 5 _ rfl).2
        have e2 : s.vm.findClass ("[" ++ (FieldType.long).toString) = some (cA .long) := (hK.2 2 _ rfl).2
        cases e1.symm.trans e2
        exact fin9 q H1 _ hP1 hD1 hS1 (by show _ = _; rw [show (xclr h.2 h.1.length).2.1 h.1.length = fun _ => 0 from x0_at _ _ _]; rfl)
      | float =>
        refine va_newa (a0 := (n.toNatClampNeg, .inr (.inr (.inl (fun _ => 0))))) (ty := .float) (atype := .float) hx hb hac rfl hK hP hD hS hA (fun _ => rfl) hn0 rfl (by show _ * 4 ≤ _; omega) (by rw [hRc]; omega) (by rw [hRs]; omega) hdg (fun q c9 H1 hK1 hP1 hD1 hS1 => ?_)
        have e1 : s.vm.findClass ("[" ++ (FieldType.float).toString) = some c9 := (hK1.2 5 _ rfl).2
        have e2 : s.vm.findClass ("[" ++ (FieldType.float).toString) = some (cA .float) := (hK.2 3 _ rfl).2
        cases e1.symm.trans e2
        exact fin9 q H1 _ hP1 hD1 hS1 (by show _ = _; rw [show (xclr h.2 h.1.length).2.2 h.1.length = fun _ => 0 from x0_at _ _ _]; rfl)
      | _ => cases hok
  · exact kk.1.elim
end XSH
end
section
/-! calls -/
abbrev xNM : Type := String × Nat × MethodName × String
def xnm (q : xNM) : Cond := .methodLinkNest q.1 q.2.1 q.2.2.1 q.2.2.2
abbrev xTS : Type := String × Nat × String × Nat
/-- what stays true of the machine's tables and texts: links to private members of nest mates, the texts -/
def xEv (TF : List xNF) (TM : List xNM) (TS : List xTS) (nS : Nat) (lenS : List Nat) (bytS : List (List Int32)) (ad adV : Nat → Nat) (A : Nat → Prop) (U : State) : Prop :=
  (∀ q ∈ TF, va_Nw (xnf q) U) ∧ (∀ q ∈ TM, va_Nw (xnm q) U) ∧ vk_S nS lenS bytS ad adV A U U.heap ∧ ∀ q ∈ TS, vk_R q.1 q.2.1 q.2.2.1 (ad q.2.2.2) U
theorem xEv.calling {TF : List xNF} {TM : List xNM} {TS : List xTS} {nS : Nat} {lenS : List Nat} {bytS : List (List Int32)} {ad adV : Nat → Nat} {A : Nat → Prop} {U : State} (k : xEv TF TM TS nS lenS bytS ad adV A U) (g : JFrame) (mk : MethodId) (a : Array Value) : xEv TF TM TS nS lenS bytS ad adV A (U.calling g mk a) :=
  ⟨fun q hq => va_Nw.same rfl rfl (k.1 q hq), fun q hq => va_Nw.same rfl rfl (k.2.1 q hq), vk_S.moved (u := U) (U := U.calling g mk a) (Vm.Alike.refl U.vm) k.2.2.1, fun q hq => vk_R.same (u := U) rfl (k.2.2.2 q hq)⟩
theorem xEv.warm {TF : List xNF} {TM : List xNM} {TS : List xTS} {nS : Nat} {lenS : List Nat} {bytS : List (List Int32)} {ad adV : Nat → Nat} {A B : Nat → Prop} {s U : State} {H : Heap} {locs : List Loc} (k : xEv TF TM TS nS lenS bytS ad adV A s) (hW : s.WarmedH U.vm) (hU : U.heap = H) (hS : va_S A s.heap H locs) (hAB : ∀ q, B q → A q) : xEv TF TM TS nS lenS bytS ad adV B U :=
  ⟨fun q hq => va_Nw.warmF hW (k.1 q hq), fun q hq => va_Nw.warmM hW (k.2.1 q hq), by rw [hU]; exact ((vk_S.moved hW.alike k.2.2.1).kept hS.2.1).narrow hAB, fun q hq => vk_R.warm hW (k.2.2.2 q hq)⟩
/-- a method's start -/
def xPc (TF : List xNF) (TM : List xNM) (TS : List xTS) (nS : Nat) (lenS : List Nat) (bytS : List (List Int32)) (ad adV : Nat → Nat) (cA : FieldType → ClassId) (D : va_G) (cl : List vw_C) (avC : List Value) (ws : va_W) (sz : Nat) : Array Value → State → Prop :=
  va_Pc avC (fun U => U.heap.size = sz ∧ va_P D cl ws U.heap ∧ va_K D cl (xtys cA) U ∧ va_D (fun _ => True) ws ∧ xEv TF TM TS nS lenS bytS ad adV (va_A ws sz) U)
/-- a method's end -/
def xQc (E : xE) (ad : Nat → Nat) (cA : FieldType → ClassId) (D : va_G) (cl : List vw_C) (ws0 : va_W) (sz : Nat) (v : Option Value) (h' : xH) : Array Value → State → Outcome → State → Prop := fun _ st oc t =>
  (∃ (vc : Option Value) (ws' : va_W), oc = .returned vc ∧ xvo (xa ad ws') v vc ∧ xW E ad cA h' ws' ∧ xmon (xa ad ws0) (xa ad ws') ∧ va_P D cl ws' t.heap ∧ va_K D cl (xtys cA) t ∧ va_D (va_A ws0 sz) ws') ∧ va_F (va_A ws0 sz) st t
def xws (TB : List Cond) (M : xM) : List Cond := Cond.code M.1 M.2.1 M.2.2.1 M.2.2.2.1 :: TB
/-- what the machine does when a method is called, as it is on paper -/
def xMet (l : Launch) (TB : List Cond) (TF : List xNF) (TM : List xNM) (TS : List xTS) (nS : Nat) (lenS : List Nat) (bytS : List (List Int32)) (E : xE) (ad adV : Nat → Nat) (cA : FieldType → ClassId) (D : va_G) (cl : List vw_C) (d : Nat) (M : xM) (av : List Value) (h : xH) (v : Option Value) (h' : xH) : Prop :=
  (xflat av).length ≤ M.2.2.1 → h'.1.length ≤ xt0 → ∀ (ws : va_W) (avC : List Value) (sz : Nat), xW E ad cA h ws → xva (xa ad ws) av avC → Met l M.1 (xws TB M) (xroom d (h'.1.length - h.1.length) (xsz E h'.1 - xsz E h.1)) (xPc TF TM TS nS lenS bytS ad adV cA D cl avC ws sz) (xQc E ad cA D cl ws sz v h') (h'.1.length - h.1.length) (xsz E h'.1 - xsz E h.1) (va_A ws sz)
/-- what the tables say of a method that is called with n values -/
def xMok (TB : List Cond) (M : xM) (n : Nat) : Prop := Cond.code M.1 M.2.1 M.2.2.1 M.2.2.2.1 ∈ TB ∧ Cond.initialized M.1.cls ∈ TB ∧ (M.1.cls ≠ "java/lang/invoke/MethodHandle" ∧ M.1.cls ≠ "java/lang/invoke/VarHandle" ∧ (parseMethodDescriptor M.1.desc).map (fun d => d.parameters.length) = some n) ∧ M.2.2.1 ≤ 40
theorem xgood {TB : List Cond} {M : xM} {n : Nat} (hgd : ∀ w ∈ TB, goodWord w = true) (hM : xMok TB M n) : GoodIn TB (xws TB M) := by
  intro w hw
  rcases List.mem_cons.mp hw with rfl | hw
  · exact ⟨hM.1, good_of_word (hgd _ hM.1)⟩
  · exact ⟨hw, good_of_word (hgd _ hw)⟩
section XSC
variable {p : Program} {l : Launch} {e : Env} {R : Room} {s : State} {m : MethodId} {args : Array Value} {below : List Frame} {meth : Method} {c : Code} {Q : State → Prop}
variable {E : xE} {ad adV : Nat → Nat} {cA : FieldType → ClassId} {D : va_G} {cl : List vw_C} {A : Nat → Prop} {r0 : Nat → Option Nat} {nL mc ms fin finS : Nat}
variable {rc : Nat → xM → xF → xP → Prop} {rn : xF → xP → Prop} {d : Nat} {Q0 : xP} {pc : Nat} {ls : xL} {st : List Value} {h : xH} {cc : ByteArray} {TB : List Cond} {TF : List xNF} {TM : List xNM} {TS : List xTS} {nS : Nat} {lenS : List Nat} {bytS : List (List Int32)} {own : String}
/-- behind a call -/
theorem xcallW {cells slots mc1 ms1 : Nat} {ws : va_W} {H : Heap} {locs : List Loc} {lsC : Array Slot} {st0 rest : List Value} {v : Option Value} {h' : xH} {a : Array Value} (hr : va_Run p l e R s m args below meth c H locs cells slots mc1 ms1 (F0 m pc lsC st0) rest (xQc E ad cA D cl ws H.size v h' a) (va_A ws H.size)) (hS : va_S A s.heap H locs) (hAB : ∀ q, va_A ws H.size q → A q)
    (kk : ∀ (vc : Option Value) (ws' : va_W) (H1 : Heap) (locs1 : List Loc), xvo (xa ad ws') v vc → xW E ad cA h' ws' → xmon (xa ad ws) (xa ad ws') → va_P D cl ws' H1 → va_D A ws' → va_S A s.heap H1 locs1 → W p l e R s m args below meth c H1 locs1 (cells + mc1) (slots + ms1) Q (F0 m (pc + 3) lsC (vc.toList ++ rest))) : W p l e R s m args below meth c H locs cells slots Q (F0 m pc lsC st0) := by
  intro T hT X
  obtain ⟨v9, st₀, t, T', L, h0, X', hL, e1, e2, ⟨⟨vc, ws', hv, hq1, hq2, hq3, hq4, hq5, hq6⟩, hz, hk⟩, stp⟩ := hr T hT X
  cases hv
  rw [h0] at hz hk
  obtain ⟨t2, a1, b1⟩ := kk v9 ws' T'.heap (locs ++ L) hq1 hq2 hq3 (by rw [e1]; exact hq4) (hq6.weaken (fun _ _ _ z => hAB _ z))
    ⟨Nat.le_trans hS.1 (by rw [e1]; exact hz), fun q h1 h2 => by rw [e1, hk q (Nat.lt_of_lt_of_le h1 hS.1) (fun z => h2 (hAB q z))]; exact hS.2.1 q h1 h2, fun q hq => by
      rcases List.mem_append.mp hq with z | z
      · exact hS.2.2 q z
      · exact hAB _ (hL q z)⟩ T' rfl X'
  exact ⟨t2, stp t2 a1, b1⟩
theorem xAB {ws : va_W} {H : Heap} {locs : List Loc} (hD : va_D A ws) (hS : va_S A s.heap H locs) (hA : ∀ q, s.heap.size ≤ q → A q) : ∀ q, va_A ws H.size q → A q := by
  intro q z
  rcases z with ⟨k, e9, z⟩ | z
  · exact hD.2 k _ z
  · exact hA q (Nat.le_trans hS.1 z)
theorem xpre {ws : va_W} {H : Heap} {locs : List Loc} {avC : List Value} (hP : va_P D cl ws H) (hD : va_D A ws) (hS : va_S A s.heap H locs) (hA : ∀ q, s.heap.size ≤ q → A q) (hK : va_K D cl (xtys cA) s) (hEv : xEv TF TM TS nS lenS bytS ad adV A s) : PreS s H (xPc TF TM TS nS lenS bytS ad adV cA D cl avC ws H.size) avC :=
  ⟨fun a U g mk q => by obtain ⟨q0, q1, qP, qK, qD, qE⟩ := q; exact ⟨q0, q1, qP, va_K.moved (u := U) (U := U.calling g mk a) (Vm.Alike.refl U.vm) qK, qD, qE.calling g mk a⟩, fun U hU hW => ⟨rfl, by rw [hU], by rw [hU]; exact hP, va_K.moved hW.alike hK, hD.weaken (fun _ _ _ _ => trivial), hEv.warm hW hU hS (xAB hD hS hA)⟩⟩
/-- the whole of a call, but for its kind -/
theorem so_callG (hN : ∀ f, rn f Q0 → xG p l e R s m args below meth c Q E ad cA D cl A r0 nL mc ms fin finS f) (hA : ∀ q, s.heap.size ≤ q → A q) (hlen : ∀ f : xF, rn f Q0 → f.2.2.2.1.length ≤ fin ∧ xsz E f.2.2.2.1 ≤ finS) (hRc : R.cells = mc) (hRs : R.slots = ms)
    {y : Nat} {av rest : List Value} (hmono : ∀ (d : Nat) (M : xM) (f : xF) (v : Option Value) (h' : xH), rc d M f (fun v' h2 => v' = v ∧ h2 = h') → f.2.2.2.1.length ≤ h'.1.length ∧ xsz E f.2.2.2.1 ≤ xsz E h'.1) (hdet : ∀ (d : Nat) (M : xM) (f : xF) (P : xP), rc d M f P → ∃ v h', P v h' ∧ rc d M f (fun v' h2 => v' = v ∧ h2 = h'))
    (run : ∀ (d' : Nat) (v : Option Value) (h' : xH), d = d' + 1 → h'.1.length ≤ fin → rc d' (E.1 y) (0, xent (E.1 y) av, [], h) (fun v' h2 => v' = v ∧ h2 = h') → ∀ (cells slots : Nat) (ws : va_W) (H : Heap) (locs : List Loc) (lsC : Array Slot) (stC : List Value), cells + (h'.1.length - h.1.length) ≤ R.cells → slots + (xsz E h'.1 - xsz E h.1) ≤ R.slots → xRel E ad cA D cl A r0 s nL (pc, ls, st, h) ws H locs lsC stC → ∃ (restC : List Value) (a : Array Value), xva (xa ad ws) rest restC ∧ va_Run p l e R s m args below meth c H locs cells slots (h'.1.length - h.1.length) (xsz E h'.1 - xsz E h.1) (F0 m pc lsC stC) restC (xQc E ad cA D cl ws H.size v h' a) (va_A ws H.size))
    (kk : xwo E rc rn d Q0 (.inr (.inr (.inr (.inl (y, av, pc + 3, ls, rest, h)))))) : xG p l e R s m args below meth c Q E ad cA D cl A r0 nL mc ms fin finS (pc, ls, st, h) := by
  cases d with
  | zero => exact kk.elim
  | succ d' =>
    have kk : rc d' (E.1 y) (0, xent (E.1 y) av, [], h) (fun v h' => rn (pc + 3, ls, v.toList ++ rest, h') Q0) := kk
    obtain ⟨v, h', hnext, hrun⟩ := hdet _ _ _ _ kk
    obtain ⟨hm1, hm2⟩ := hmono _ _ _ _ _ hrun
    have hm1 : h.1.length ≤ h'.1.length := hm1
    have hm2 : xsz E h.1 ≤ xsz E h'.1 := hm2
    obtain ⟨hl1, hl2⟩ := hlen _ hnext
    have hl1 : h'.1.length ≤ fin := hl1
    have hl2 : xsz E h'.1 ≤ finS := hl2
    intro cells slots ws H locs lsC stC h1 h2 hrel
    have h1 : cells + fin ≤ mc + h.1.length := h1
    have h2 : slots + finS ≤ ms + xsz E h.1 := h2
    obtain ⟨restC, a, hrC, hgo⟩ := run d' v h' rfl hl1 hrun cells slots ws H locs lsC stC (by rw [hRc]; omega) (by rw [hRs]; omega) hrel
    obtain ⟨⟨hW, hm⟩, hP, hD, hS, hl, hst⟩ := hrel
    refine xcallW hgo hS (xAB hD hS hA) (fun vc ws' H1 locs1 q1 q2 q3 q4 q5 q6 => ?_)
    refine hN _ hnext _ _ ws' H1 locs1 lsC _ (show _ + fin ≤ mc + h'.1.length by omega) (show _ + finS ≤ ms + xsz E h'.1 by omega) ⟨⟨q2, fun k a z => q3 _ _ (hm k a z)⟩, q4, q5, q6, xls_mono q3 hl, ?_⟩
    cases v with
    | none => rw [show vc = none from q1]; exact xva_mono q3 hrC
    | some v9 =>
      obtain ⟨u, rfl, hu⟩ := q1
      exact ⟨u, restC, rfl, hu, xva_mono q3 hrC⟩
theorem so_cls (hx : p.tables.exec = Jvm.exec) (hb : c.code = cc) (hml : c.maxLocals = nL) (hts : ∀ w ∈ TB, w.before args s = true) (hgd : ∀ w ∈ TB, goodWord w = true) (hown : s.vm.findClass own = some m.cls) (hK : va_K D cl (xtys cA) s) (hA : ∀ q, s.heap.size ≤ q → A q) (hEv : xEv TF TM TS nS lenS bytS ad adV A s) (hlen : ∀ f : xF, rn f Q0 → f.2.2.2.1.length ≤ fin ∧ xsz E f.2.2.2.1 ≤ finS) (hR : R = xroom d mc ms)
    (hmono : ∀ (d : Nat) (M : xM) (f : xF) (v : Option Value) (h' : xH), rc d M f (fun v' h2 => v' = v ∧ h2 = h') → f.2.2.2.1.length ≤ h'.1.length ∧ xsz E f.2.2.2.1 ≤ xsz E h'.1) (hdet : ∀ (d : Nat) (M : xM) (f : xF) (P : xP), rc d M f P → ∃ v h', P v h' ∧ rc d M f (fun v' h2 => v' = v ∧ h2 = h')) (hfin : fin ≤ xt0)
    (hMet : ∀ (d : Nat) (y : Nat) (av : List Value) (h : xH) (v : Option Value) (h' : xH), rc d (E.1 y) (0, xent (E.1 y) av, [], h) (fun v' h2 => v' = v ∧ h2 = h') → xMet l TB TF TM TS nS lenS bytS E ad adV cA D cl d (E.1 y) av h v h') (hN : ∀ f, rn f Q0 → xG p l e R s m args below meth c Q E ad cA D cl A r0 nL mc ms fin finS f) {y n idx : Nat} (hM : xMok TB (E.1 y) n) (hlk : Cond.methodLink own idx (E.1 y).1 ∈ TB) (hst : Cond.static (E.1 y).1 ∈ TB) (hdg : decode cc pc = .ok (.invokestatic idx, 3))
    (kk : xwo E rc rn d Q0 (xcl E (pc + 3) ls st h y n)) : xG p l e R s m args below meth c Q E ad cA D cl A r0 nL mc ms fin finS (pc, ls, st, h) := by
  unfold xcl at kk
  split at kk
  · rename_i av rst hpop
    cases hb8 : (Nat.ble (xcat rst) 8 && Nat.ble (xflat av).length (E.1 y).2.2.1) with
    | false => rw [hb8] at kk; exact kk.1.elim
    | true =>
      rw [hb8] at kk
      rw [Bool.and_eq_true] at hb8
      have hc8 := Nat.le_of_ble_eq_true hb8.1
      have hfl := Nat.le_of_ble_eq_true hb8.2
      refine so_callG hN hA hlen (by rw [hR]; rfl) (by rw [hR]; rfl) hmono hdet (fun d9 v h' hd9 hle hrun cells slots ws H locs lsC stC hc1 hs1 hrel => ?_) kk
      obtain ⟨⟨hW, hm⟩, hP, hD, hS, hl, hst9⟩ := hrel
      obtain ⟨as, e1, e2, e3⟩ := xpop_spec (r := xa ad ws) n st [] av rst hpop
      rw [List.append_nil] at e1
      subst e1
      have hst9 : xva (xa ad ws) st stC := hst9
      rw [e3] at hst9
      obtain ⟨wa, wb, rfl, g1, g2⟩ := xva_split hst9
      have g1 := xva_rev g1
      rw [List.reverse_reverse] at g1
      subst hd9
      refine ⟨wb, wa.reverse.toArray, g2, va_runS (As := wa.reverse) (rest := wb) ⟨hx, hb, hml, hown, hts⟩ (hMet _ _ _ _ _ _ hrun hfl (Nat.le_trans hle hfin) ws wa.reverse H.size hW g1) (va_cwS n hts (fun w hw => ?_) rfl rfl rfl hM.2.2.1 (by
        rw [hR]
        show d9 + 8 + 1 ≤ d9 + 1 + 8 ∧ 8 + (_ + 11) + (60 * d9 + 400) ≤ 60 * (d9 + 1) + 400
        have := hM.2.2.2
        omega)) (xpre hP hD hS hA hK hEv) rfl (by rw [xva_len g1, e2]) hl.1 (by show wa ++ wb = _; rw [List.reverse_reverse]) (by show 2 * 0 + xcat wb ≤ 8; rw [xva_cat g2]; omega) hdg ⟨hc1, hs1⟩⟩
      have hg := xgood hgd hM
      unfold va_wsS at hw
      rcases List.mem_append.mp hw with z | z
      · simp only [List.mem_cons, List.not_mem_nil, or_false] at z
        rcases z with rfl | rfl | rfl
        · exact ⟨hlk, good_of_word (hgd _ hlk)⟩
        · exact ⟨hst, good_of_word (hgd _ hst)⟩
        · exact ⟨hM.2.1, good_of_word (hgd _ hM.2.1)⟩
      · exact hg w z
  · exact kk.1.elim
theorem so_clv (hx : p.tables.exec = Jvm.exec) (hb : c.code = cc) (hml : c.maxLocals = nL) (hts : ∀ w ∈ TB, w.before args s = true) (hgd : ∀ w ∈ TB, goodWord w = true) (hown : s.vm.findClass own = some m.cls) (hK : va_K D cl (xtys cA) s) (hA : ∀ q, s.heap.size ≤ q → A q) (hEv : xEv TF TM TS nS lenS bytS ad adV A s) (hlen : ∀ f : xF, rn f Q0 → f.2.2.2.1.length ≤ fin ∧ xsz E f.2.2.2.1 ≤ finS) (hR : R = xroom d mc ms)
    (hmono : ∀ (d : Nat) (M : xM) (f : xF) (v : Option Value) (h' : xH), rc d M f (fun v' h2 => v' = v ∧ h2 = h') → f.2.2.2.1.length ≤ h'.1.length ∧ xsz E f.2.2.2.1 ≤ xsz E h'.1) (hdet : ∀ (d : Nat) (M : xM) (f : xF) (P : xP), rc d M f P → ∃ v h', P v h' ∧ rc d M f (fun v' h2 => v' = v ∧ h2 = h')) (hfin : fin ≤ xt0)
    (hMet : ∀ (d : Nat) (y : Nat) (av : List Value) (h : xH) (v : Option Value) (h' : xH), rc d (E.1 y) (0, xent (E.1 y) av, [], h) (fun v' h2 => v' = v ∧ h2 = h') → xMet l TB TF TM TS nS lenS bytS E ad adV cA D cl d (E.1 y) av h v h') (hN : ∀ f, rn f Q0 → xG p l e R s m args below meth c Q E ad cA D cl A r0 nL mc ms fin finS f) {y n ci idx : Nat} {r : vw_C} (hr : cl[ci]? = some r) (hM : xMok TB (E.1 y) n) (hC : (E.1 y).1.cls = r.1) (hlk : Cond.methodLink own idx (E.1 y).1 ∈ TB) (hin : Cond.instanceMethod (E.1 y).1 ∈ TB) (hse : Cond.selects r.1 (E.1 y).1 (E.1 y).1 ∈ TB) (hdg : decode cc pc = .ok (.invokevirtual idx, 3))
    (kk : xwo E rc rn d Q0 (xclv E (pc + 3) ls st h y n ci)) : xG p l e R s m args below meth c Q E ad cA D cl A r0 nL mc ms fin finS (pc, ls, st, h) := by
  unfold xclv at kk
  split at kk
  · rename_i av rst hpop
    cases hb8 : (Nat.ble (xcat rst) 8 && Nat.ble (xflat av).length (E.1 y).2.2.1 && xis E ci av h) with
    | false => rw [hb8] at kk; exact kk.1.elim
    | true =>
      rw [hb8] at kk
      rw [Bool.and_eq_true, Bool.and_eq_true] at hb8
      have hc8 := Nat.le_of_ble_eq_true hb8.1.1
      have hfl := Nat.le_of_ble_eq_true hb8.1.2
      have hci := hb8.2
      refine so_callG hN hA hlen (by rw [hR]; rfl) (by rw [hR]; rfl) hmono hdet (fun d9 v h' hd9 hle hrun cells slots ws H locs lsC stC hc1 hs1 hrel => ?_) kk
      obtain ⟨⟨hW, hm⟩, hP, hD, hS, hl, hst9⟩ := hrel
      obtain ⟨as, e1, e2, e3⟩ := xpop_spec (r := xa ad ws) (n + 1) st [] av rst hpop
      rw [List.append_nil] at e1
      subst e1
      have hst9 : xva (xa ad ws) st stC := hst9
      rw [e3] at hst9
      obtain ⟨wa, wb, rfl, g1, g2⟩ := xva_split hst9
      have g1 := xva_rev g1
      rw [List.reverse_reverse] at g1
      have hM9 := hMet _ _ _ _ _ _ hrun hfl (Nat.le_trans hle hfin) ws wa.reverse H.size hW g1
      unfold xis at hci
      split at hci
      · rename_i b as2 
        split at hci
        · rename_i c2 rf hbc
          have := Nat.eq_of_beq_eq_true hci
          subst this
          obtain ⟨u, us, g3, ⟨q, hq, rfl⟩, g5⟩ := g1
          obtain ⟨e9, g6, fs, rfl, -⟩ := xW_at hW hbc hq
          rw [g3] at hM9
          have g4 : wa = us.reverse ++ [.ref q] := by
            have := congrArg List.reverse g3
            rw [List.reverse_reverse, List.reverse_cons] at this
            exact this
          subst hd9
          refine ⟨wb, (Value.ref q :: us).toArray, g2, va_runV (As := us) (rest := wb) ⟨hx, hb, hml, hown, hts⟩ hM9 (cwV (C := r.1) n hts (fun w hw => ?_) rfl rfl rfl ⟨hC, hM.2.2.1⟩ (by
            rw [hR]
            show d9 + 8 + 1 ≤ d9 + 1 + 8 ∧ 8 + (_ + 11) + (60 * d9 + 400) ≤ 60 * (d9 + 1) + 400
            have := hM.2.2.2
            omega)) ⟨(xpre hP hD hS hA hK hEv).1, va_recv hK hP hr g6, (xpre hP hD hS hA hK hEv).2⟩ rfl (by have := xva_len g5; simp only [List.length_cons] at e2; omega) hl.1 (by show wa ++ wb = _; rw [g4]; simp) (by show 2 * 0 + xcat wb ≤ 8; rw [xva_cat g2]; omega) hdg ⟨hc1, hs1⟩⟩
          have hg := xgood hgd hM
          unfold wsV at hw
          rcases List.mem_append.mp hw with z | z
          · simp only [List.mem_cons, List.not_mem_nil, or_false] at z
            rcases z with rfl | rfl | rfl | rfl
            · exact ⟨hlk, good_of_word (hgd _ hlk)⟩
            · exact ⟨hin, good_of_word (hgd _ hin)⟩
            · exact ⟨hse, good_of_word (hgd _ hse)⟩
            · rw [← hC]; exact ⟨hM.2.1, good_of_word (hgd _ hM.2.1)⟩
          · exact hg w z
        · cases hci
      · cases hci
  · exact kk.1.elim
theorem so_cli (hx : p.tables.exec = Jvm.exec) (hb : c.code = cc) (hml : c.maxLocals = nL) (hts : ∀ w ∈ TB, w.before args s = true) (hgd : ∀ w ∈ TB, goodWord w = true) (hown : s.vm.findClass own = some m.cls) (hK : va_K D cl (xtys cA) s) (hA : ∀ q, s.heap.size ≤ q → A q) (hEv : xEv TF TM TS nS lenS bytS ad adV A s) (hlen : ∀ f : xF, rn f Q0 → f.2.2.2.1.length ≤ fin ∧ xsz E f.2.2.2.1 ≤ finS) (hR : R = xroom d mc ms)
    (hmono : ∀ (d : Nat) (M : xM) (f : xF) (v : Option Value) (h' : xH), rc d M f (fun v' h2 => v' = v ∧ h2 = h') → f.2.2.2.1.length ≤ h'.1.length ∧ xsz E f.2.2.2.1 ≤ xsz E h'.1) (hdet : ∀ (d : Nat) (M : xM) (f : xF) (P : xP), rc d M f P → ∃ v h', P v h' ∧ rc d M f (fun v' h2 => v' = v ∧ h2 = h')) (hfin : fin ≤ xt0)
    (hMet : ∀ (d : Nat) (y : Nat) (av : List Value) (h : xH) (v : Option Value) (h' : xH), rc d (E.1 y) (0, xent (E.1 y) av, [], h) (fun v' h2 => v' = v ∧ h2 = h') → xMet l TB TF TM TS nS lenS bytS E ad adV cA D cl d (E.1 y) av h v h') (hN : ∀ f, rn f Q0 → xG p l e R s m args below meth c Q E ad cA D cl A r0 nL mc ms fin finS f) {y n ci idx : Nat} (hM : xMok TB (E.1 y) n) (hret : (E.1 y).2.2.2.1 = none) (hini : (E.1 y).1.name = "<init>") (hlk : Cond.methodLink own idx (E.1 y).1 ∈ TB ∨ ∃ host, (own, idx, (E.1 y).1, host) ∈ TM) (hin : Cond.instanceMethod (E.1 y).1 ∈ TB) (hdg : decode cc pc = .ok (.invokespecial idx, 3))
    (kk : xwo E rc rn d Q0 (xclv E (pc + 3) ls st h y n ci)) : xG p l e R s m args below meth c Q E ad cA D cl A r0 nL mc ms fin finS (pc, ls, st, h) := by
  unfold xclv at kk
  split at kk
  · rename_i av rst hpop
    cases hb8 : (Nat.ble (xcat rst) 8 && Nat.ble (xflat av).length (E.1 y).2.2.1 && xis E ci av h) with
    | false => rw [hb8] at kk; exact kk.1.elim
    | true =>
      rw [hb8] at kk
      rw [Bool.and_eq_true, Bool.and_eq_true] at hb8
      have hc8 := Nat.le_of_ble_eq_true hb8.1.1
      have hfl := Nat.le_of_ble_eq_true hb8.1.2
      have hci := hb8.2
      refine so_callG hN hA hlen (by rw [hR]; rfl) (by rw [hR]; rfl) hmono hdet (fun d9 v h' hd9 hle hrun cells slots ws H locs lsC stC hc1 hs1 hrel => ?_) kk
      obtain ⟨⟨hW, hm⟩, hP, hD, hS, hl, hst9⟩ := hrel
      obtain ⟨as, e1, e2, e3⟩ := xpop_spec (r := xa ad ws) (n + 1) st [] av rst hpop
      rw [List.append_nil] at e1
      subst e1
      have hst9 : xva (xa ad ws) st stC := hst9
      rw [e3] at hst9
      obtain ⟨wa, wb, rfl, g1, g2⟩ := xva_split hst9
      have g1 := xva_rev g1
      rw [List.reverse_reverse] at g1
      have hM9 := hMet _ _ _ _ _ _ hrun hfl (Nat.le_trans hle hfin) ws wa.reverse H.size hW g1
      unfold xis at hci
      split at hci
      · rename_i b as2 
        split at hci
        · rename_i c2 rf hbc
          have := Nat.eq_of_beq_eq_true hci
          subst this
          obtain ⟨u, us, g3, ⟨q, hq, rfl⟩, g5⟩ := g1
          obtain ⟨e9, g6, fs, rfl, -⟩ := xW_at hW hbc hq
          rw [g3] at hM9
          have g4 : wa = us.reverse ++ [.ref q] := by
            have := congrArg List.reverse g3
            rw [List.reverse_reverse, List.reverse_cons] at this
            exact this
          subst hd9
          have hw9 : xws TB (E.1 y) = Cond.code (E.1 y).1 (E.1 y).2.1 (E.1 y).2.2.1 none :: TB := by rw [← hret]; rfl
          rcases hlk with hlk | ⟨host, hlk⟩
          · exact ⟨wb, (Value.ref q :: us).toArray, g2, va_runI (As := us) (rest := wb) ⟨hx, hb, hml, hown, hts⟩ hM9 (cwI n hts (xgood hgd hM) hw9 rfl rfl (hts _ hM.2.1) (hts _ hlk) (hts _ hin) hini hM.2.2.1 (by
            rw [hR]
            show d9 + 8 + 1 ≤ d9 + 1 + 8 ∧ 8 + (_ + 11) + (60 * d9 + 400) ≤ 60 * (d9 + 1) + 400
            have := hM.2.2.2
            omega)) (xpre hP hD hS hA hK hEv) rfl (by have := xva_len g5; simp only [List.length_cons] at e2; omega) hl.1 (by show wa ++ wb = _; rw [g4]; simp) (by show 2 * 0 + xcat wb ≤ 8; rw [xva_cat g2]; omega) hdg ⟨hc1, hs1⟩⟩
          · exact ⟨wb, (Value.ref q :: us).toArray, g2, va_runIN (As := us) (rest := wb) ⟨hx, hb, hml, hown, hts⟩ hM9 ⟨va_cnB n hts (xgood hgd hM) hw9 rfl rfl (hEv.2.1 _ hlk) (hts _ hM.2.1) hM.2.2.1 (by
            rw [hR]
            show d9 + 8 + 1 ≤ d9 + 1 + 8 ∧ 8 + (_ + 11) + (60 * d9 + 400) ≤ 60 * (d9 + 1) + 400
            have := hM.2.2.2
            omega), hini, hts _ hin⟩ (xpre hP hD hS hA hK hEv) rfl (by have := xva_len g5; simp only [List.length_cons] at e2; omega) hl.1 (by show wa ++ wb = _; rw [g4]; simp) (by show 2 * 0 + xcat wb ≤ 8; rw [xva_cat g2]; omega) hdg ⟨hc1, hs1⟩⟩
        · cases hci
      · cases hci
  · exact kk.1.elim
end XSC
end
section
/-! cells are never taken away -/
def xle (E : xE) (h h' : xH) : Prop := h.1.length ≤ h'.1.length ∧ xsz E h.1 ≤ xsz E h'.1
theorem xle.rf {E : xE} {h : xH} : xle E h h := ⟨Nat.le_refl _, Nat.le_refl _⟩
theorem xle.tr {E : xE} {h1 h2 h3 : xH} (a : xle E h1 h2) (b : xle E h2 h3) : xle E h1 h3 := ⟨Nat.le_trans a.1 b.1, Nat.le_trans a.2 b.2⟩
def xog (E : xE) (h : xH) (o : xO) : Prop := match o with
  | .inl g => xle E h g.2.2.2
  | .inr (.inl (_, g)) => xle E h g.2.2.2
  | .inr (.inr (.inl (cs, g))) => (∀ q ∈ cs, xle E h q.2.2.2.2) ∧ xle E h g.2.2.2
  | .inr (.inr (.inr (.inl (_, _, _, _, _, h2)))) => h2 = h
  | .inr (.inr (.inr (.inr (_, _, h2)))) => h2 = h
theorem xle_app {E : xE} {h : xH} {t : List xS} {d : xD} : xle E h (h.1 ++ t, d) := ⟨by simp, by rw [xsz_app]; omega⟩
theorem xle_set {E : xE} {h : xH} {a ci : Nat} {rf rf' : List (Option Nat)} {d : xD} (ha : h.1[a]? = some (.inr (ci, rf))) : xle E h (h.1.set a (.inr (ci, rf')), d) := ⟨by simp, by show xsz E h.1 ≤ xsz E (h.1.set a (.inr (ci, rf'))); rw [xsz_set (t' := .inr (ci, rf')) ha rfl]; exact Nat.le_refl _⟩
theorem xle_dat {E : xE} {h : xH} {d : xD} : xle E h (h.1, d) := xle.rf
theorem xog_no {E : xE} {f : xF} : xog E f.2.2.2 (xno f) := xle.rf
theorem xog_xii {E : xE} (g : Int32 → Int32 → Int32) (nx : Nat) (ls : xL) (st : List Value) (h : xH) : xog E h (xii g nx ls st h) := by
  unfold xii
  repeat' split
  all_goals exact xle.rf
theorem xog_xi {E : xE} (g : Int32 → Value) (nx : Nat) (ls : xL) (st : List Value) (h : xH) : xog E h (xi g nx ls st h) := by
  unfold xi
  repeat' split
  all_goals exact xle.rf
theorem xog_xiiD {E : xE} (g : Int32 → Int32 → Int32) (nx : Nat) (ls : xL) (st : List Value) (h : xH) : xog E h (xiiD g nx ls st h) := by
  unfold xiiD
  repeat' split
  all_goals exact xle.rf
theorem xog_xll {E : xE} (g : Int64 → Int64 → Value) (nx : Nat) (ls : xL) (st : List Value) (h : xH) : xog E h (xll g nx ls st h) := by
  unfold xll
  repeat' split
  all_goals exact xle.rf
theorem xog_xl {E : xE} (g : Int64 → Value) (nx : Nat) (ls : xL) (st : List Value) (h : xH) : xog E h (xl g nx ls st h) := by
  unfold xl
  repeat' split
  all_goals exact xle.rf
theorem xog_xli {E : xE} (g : Int64 → Int32 → Int64) (nx : Nat) (ls : xL) (st : List Value) (h : xH) : xog E h (xli g nx ls st h) := by
  unfold xli
  repeat' split
  all_goals exact xle.rf
theorem xog_xff {E : xE} (g : UInt32 → UInt32 → UInt32) (nx : Nat) (ls : xL) (st : List Value) (h : xH) : xog E h (xff g nx ls st h) := by
  unfold xff
  repeat' split
  all_goals exact xle.rf
theorem xog_xf {E : xE} (g : UInt32 → Value) (nx : Nat) (ls : xL) (st : List Value) (h : xH) : xog E h (xf g nx ls st h) := by
  unfold xf
  repeat' split
  all_goals exact xle.rf
theorem xog_xfc {E : xE} (g : CmpOp) (nx : Nat) (ls : xL) (st : List Value) (h : xH) : xog E h (xfc g nx ls st h) := by
  unfold xfc
  repeat' split
  all_goals exact xle.rf
theorem xog_xloi {E : xE} (i : Nat) (nx : Nat) (ls : xL) (st : List Value) (h : xH) : xog E h (xloi i nx ls st h) := by
  unfold xloi
  repeat' split
  all_goals exact xle.rf
theorem xog_xlol {E : xE} (i : Nat) (nx : Nat) (ls : xL) (st : List Value) (h : xH) : xog E h (xlol i nx ls st h) := by
  unfold xlol
  repeat' split
  all_goals exact xle.rf
theorem xog_xlof {E : xE} (i : Nat) (nx : Nat) (ls : xL) (st : List Value) (h : xH) : xog E h (xlof i nx ls st h) := by
  unfold xlof
  repeat' split
  all_goals exact xle.rf
theorem xog_xloa {E : xE} (i : Nat) (nx : Nat) (ls : xL) (st : List Value) (h : xH) : xog E h (xloa i nx ls st h) := by
  unfold xloa
  repeat' split
  all_goals exact xle.rf
theorem xog_xsti {E : xE} (i : Nat) (nx : Nat) (ls : xL) (st : List Value) (h : xH) : xog E h (xsti i nx ls st h) := by
  unfold xsti
  repeat' split
  all_goals exact xle.rf
theorem xog_xstf {E : xE} (i : Nat) (nx : Nat) (ls : xL) (st : List Value) (h : xH) : xog E h (xstf i nx ls st h) := by
  unfold xstf
  repeat' split
  all_goals exact xle.rf
theorem xog_xsta {E : xE} (i : Nat) (nx : Nat) (ls : xL) (st : List Value) (h : xH) : xog E h (xsta i nx ls st h) := by
  unfold xsta
  repeat' split
  all_goals exact xle.rf
theorem xog_xstl {E : xE} (i : Nat) (nx : Nat) (ls : xL) (st : List Value) (h : xH) : xog E h (xstl i nx ls st h) := by
  unfold xstl
  repeat' split
  all_goals exact xle.rf
theorem xog_xinc {E : xE} (i : Nat) (v : Value) (nx : Nat) (ls : xL) (st : List Value) (h : xH) : xog E h (xinc i v nx ls st h) := by
  unfold xinc
  repeat' split
  all_goals exact xle.rf
theorem xog_xnul {E : xE} (a b : Nat) (ls : xL) (st : List Value) (h : xH) : xog E h (xnul a b ls st h) := by
  unfold xnul
  repeat' split
  all_goals exact xle.rf
theorem xog_xaldI {E : xE}  (nx : Nat) (ls : xL) (st : List Value) (h : xH) : xog E h (xaldI nx ls st h) := by
  unfold xaldI
  repeat' split
  all_goals exact xle.rf
theorem xog_xaldB {E : xE}  (nx : Nat) (ls : xL) (st : List Value) (h : xH) : xog E h (xaldB nx ls st h) := by
  unfold xaldB
  repeat' split
  all_goals exact xle.rf
theorem xog_xaldL {E : xE}  (nx : Nat) (ls : xL) (st : List Value) (h : xH) : xog E h (xaldL nx ls st h) := by
  unfold xaldL
  repeat' split
  all_goals exact xle.rf
theorem xog_xaldF {E : xE}  (nx : Nat) (ls : xL) (st : List Value) (h : xH) : xog E h (xaldF nx ls st h) := by
  unfold xaldF
  repeat' split
  all_goals exact xle.rf
theorem xog_xaldA {E : xE}  (nx : Nat) (ls : xL) (st : List Value) (h : xH) : xog E h (xaldA nx ls st h) := by
  unfold xaldA
  repeat' split
  all_goals exact xle.rf
theorem xog_xastI {E : xE}  (nx : Nat) (ls : xL) (st : List Value) (h : xH) : xog E h (xastI nx ls st h) := by
  unfold xastI
  repeat' split
  all_goals exact xle.rf
theorem xog_xastB {E : xE}  (nx : Nat) (ls : xL) (st : List Value) (h : xH) : xog E h (xastB nx ls st h) := by
  unfold xastB
  repeat' split
  all_goals exact xle.rf
theorem xog_xastL {E : xE}  (nx : Nat) (ls : xL) (st : List Value) (h : xH) : xog E h (xastL nx ls st h) := by
  unfold xastL
  repeat' split
  all_goals exact xle.rf
theorem xog_xastF {E : xE}  (nx : Nat) (ls : xL) (st : List Value) (h : xH) : xog E h (xastF nx ls st h) := by
  unfold xastF
  repeat' split
  all_goals exact xle.rf
theorem xog_xaln {E : xE}  (nx : Nat) (ls : xL) (st : List Value) (h : xH) : xog E h (xaln nx ls st h) := by
  unfold xaln
  repeat' split
  all_goals exact xle.rf
theorem xog_xb1 {E : xE} (g : Int32 → Prop) (nx : Nat) (tg : List Nat) (ls : xL) (st : List Value) (h : xH) : xog E h (xb1 g nx tg ls st h) := by
  unfold xb1
  split
  · unfold xb1t
    split
    · exact ⟨fun q hq => by rw [List.mem_singleton.mp hq]; exact xle.rf, xle.rf⟩
    · exact xle.rf
  · exact xle.rf
theorem xog_xb2 {E : xE} (g : Int32 → Int32 → Prop) (nx : Nat) (tg : List Nat) (ls : xL) (st : List Value) (h : xH) : xog E h (xb2 g nx tg ls st h) := by
  unfold xb2
  split
  · unfold xb2t
    split
    · exact ⟨fun q hq => by rw [List.mem_singleton.mp hq]; exact xle.rf, xle.rf⟩
    · exact xle.rf
  · exact xle.rf
theorem xsw_mem {ls : xL} {r : List Value} {h : xH} {x : Int32} : ∀ (ts : List Nat) (k : Int) (q : Prop × xF), q ∈ xsw ls r h x k ts → q.2.2.2.2 = h
  | [], _, _, hq => by cases hq
  | t :: ts, k, q, hq => by
    unfold xsw at hq
    rcases List.mem_cons.mp hq with rfl | hq
    · rfl
    · exact xsw_mem ts _ q hq
theorem xog_xgf {E : xE} (nx : Nat) (tg : List Nat) (ls : xL) (st : List Value) (h : xH) : xog E h (xgf E nx tg ls st h) := by
  unfold xgf
  split
  · rename_i ci k
    unfold xgft
    split
    · split
      · rename_i c2 rf ty ha hty
        cases hb : Nat.beq c2 ci <;> exact xle.rf
      · exact xle.rf
    · exact xle.rf
  · exact xle.rf
theorem xog_xpf {E : xE} (nx : Nat) (tg : List Nat) (ls : xL) (st : List Value) (h : xH) : xog E h (xpf E nx tg ls st h) := by
  unfold xpf
  split
  · rename_i ci k
    unfold xpft
    split
    · rename_i v a r
      split
      · rename_i c2 rf ty ha hty
        cases hb : Nat.beq c2 ci with
        | false => exact xle.rf
        | true =>
          have := Nat.eq_of_beq_eq_true hb
          subst this
          show xog E h (xwr nx ls _ _ h a c2 k rf ty v)
          unfold xwr
          split <;> first | exact xle.rf | exact xle_set ha
      · exact xle.rf
    · exact xle.rf
  · exact xle.rf
theorem xog_xnew {E : xE} (nx : Nat) (tg : List Nat) (ls : xL) (st : List Value) (h : xH) : xog E h (xnew E nx tg ls st h) := by
  unfold xnew
  split
  · exact xle_app
  · exact xle.rf
theorem xog_xnar {E : xE} (ty : FieldType) (nx : Nat) (ls : xL) (st : List Value) (h : xH) : xog E h (xnar ty nx ls st h) := by
  unfold xnar
  split
  · cases xoka ty
    · exact xle.rf
    · exact xle_app
  · exact xle.rf
theorem xog_xmul {E : xE} (nx : Nat) (ls : xL) (st : List Value) (h : xH) : xog E h (xmul nx ls st h) := by
  unfold xmul
  split
  · exact xle_app
  · exact xle.rf
theorem xog_xcl {E : xE} (nx : Nat) (ls : xL) (st : List Value) (h : xH) (y n : Nat) : xog E h (xcl E nx ls st h y n) := by
  unfold xcl
  split
  · rename_i av r _
    cases (Nat.ble (xcat r) 8 && Nat.ble (xflat av).length (E.1 y).2.2.1)
    · exact xle.rf
    · rfl
  · exact xle.rf
theorem xog_xclv {E : xE} (nx : Nat) (ls : xL) (st : List Value) (h : xH) (y n ci : Nat) : xog E h (xclv E nx ls st h y n ci) := by
  unfold xclv
  split
  · rename_i av r _
    cases (Nat.ble (xcat r) 8 && Nat.ble (xflat av).length (E.1 y).2.2.1 && xis E ci av h)
    · exact xle.rf
    · rfl
  · exact xle.rf
theorem xog_xmax {E : xE} (nx : Nat) (ls : xL) (st : List Value) (h : xH) : xog E h (xmax nx ls st h) := by
  unfold xmax
  split
  · cases Nat.ble _ _ <;> exact xle.rf
  · exact xle.rf
theorem xog_xmin {E : xE} (nx : Nat) (ls : xL) (st : List Value) (h : xH) : xog E h (xmin nx ls st h) := by
  unfold xmin
  split
  · cases Nat.ble _ _ <;> exact xle.rf
  · exact xle.rf
theorem xog_xobj {E : xE} (nx : Nat) (ls : xL) (st : List Value) (h : xH) : xog E h (xobj nx ls st h) := by
  unfold xobj
  split
  · cases Nat.ble _ _ <;> exact xle.rf
  · exact xle.rf
theorem xog_xtl {E : xE} (nx : Nat) (ls : xL) (st : List Value) (h : xH) : xog E h (xtl E nx ls st h) := by
  unfold xtl
  split
  · rename_i a r
    cases (Nat.ble xt0 a && Nat.ble (xcat r) 8) <;> exact xle.rf
  · exact xle.rf
theorem xog_xtc {E : xE} (nx : Nat) (ls : xL) (st : List Value) (h : xH) : xog E h (xtc E nx ls st h) := by
  unfold xtc
  split
  · rename_i i a r
    cases (Nat.ble xt0 a && Nat.ble (xcat r) 8) <;> exact xle.rf
  · exact xle.rf
theorem xog_xivs {E : xE} (nx : Nat) (tg : List Nat) (ls : xL) (st : List Value) (h : xH) : xog E h (xivs E nx tg ls st h) := by
  unfold xivs
  split
  · apply xog_xcl
  · apply xog_xmax
  · apply xog_xmin
  · exact xle.rf
theorem xog_xivv {E : xE} (nx : Nat) (tg : List Nat) (ls : xL) (st : List Value) (h : xH) : xog E h (xivv E nx tg ls st h) := by
  unfold xivv
  split
  · apply xog_xclv
  · apply xog_xtl
  · apply xog_xtc
  · exact xle.rf
theorem xog_xivi {E : xE} (nx : Nat) (tg : List Nat) (ls : xL) (st : List Value) (h : xH) : xog E h (xivi E nx tg ls st h) := by
  unfold xivi
  split
  · apply xog_xclv
  · apply xog_xobj
  · exact xle.rf
theorem xog_xswt {E : xE} (lo : Int) (nx t : Nat) (ts : List Nat) (ls : xL) (st : List Value) (h : xH) : xog E h (xswt lo nx t ts ls st h) := by
  unfold xswt
  split
  · exact ⟨fun q hq => by rw [xsw_mem _ _ q hq]; exact xle.rf, xle.rf⟩
  · exact xle.rf
theorem xog_xrei {E : xE} (M : xM) (st : List Value) (h : xH) : xog E h (xrei M st h) := by
  unfold xrei
  split <;> first | rfl | exact xle.rf
theorem xog_xrel {E : xE} (M : xM) (st : List Value) (h : xH) : xog E h (xrel M st h) := by
  unfold xrel
  split <;> first | rfl | exact xle.rf
theorem xog_xref {E : xE} (M : xM) (st : List Value) (h : xH) : xog E h (xref M st h) := by
  unfold xref
  split <;> first | rfl | exact xle.rf
theorem xog_xrea {E : xE} (M : xM) (st : List Value) (h : xH) : xog E h (xrea M st h) := by
  unfold xrea
  split <;> first | rfl | exact xle.rf
theorem xog_xrev {E : xE} (M : xM) (st : List Value) (h : xH) : xog E h (xrev M st h) := by
  unfold xrev
  split <;> first | rfl | exact xle.rf
theorem xog_xdup {E : xE} (nx : Nat) (ls : xL) (st : List Value) (h : xH) : xog E h (xdup nx ls st h) := by
  unfold xdup
  split
  all_goals first | exact xle.rf | (cases (Nat.beq _ _) <;> exact xle.rf) | (cases (Nat.beq _ _ && Nat.beq _ _) <;> exact xle.rf) | (cases (Nat.beq _ _ && Nat.beq _ _ && Nat.beq _ _) <;> exact xle.rf) | (cases (Nat.beq _ _ && Nat.beq _ _) <;> first | exact xle.rf | (cases (Nat.beq _ 2) <;> exact xle.rf))
theorem xog_xpo {E : xE} (nx : Nat) (ls : xL) (st : List Value) (h : xH) : xog E h (xpo nx ls st h) := by
  unfold xpo
  split
  all_goals first | exact xle.rf | (cases (Nat.beq _ _) <;> exact xle.rf) | (cases (Nat.beq _ _ && Nat.beq _ _) <;> exact xle.rf) | (cases (Nat.beq _ _ && Nat.beq _ _ && Nat.beq _ _) <;> exact xle.rf) | (cases (Nat.beq _ _ && Nat.beq _ _) <;> first | exact xle.rf | (cases (Nat.beq _ 2) <;> exact xle.rf))
theorem xog_xdx1 {E : xE} (nx : Nat) (ls : xL) (st : List Value) (h : xH) : xog E h (xdx1 nx ls st h) := by
  unfold xdx1
  split
  all_goals first | exact xle.rf | (cases (Nat.beq _ _) <;> exact xle.rf) | (cases (Nat.beq _ _ && Nat.beq _ _) <;> exact xle.rf) | (cases (Nat.beq _ _ && Nat.beq _ _ && Nat.beq _ _) <;> exact xle.rf) | (cases (Nat.beq _ _ && Nat.beq _ _) <;> first | exact xle.rf | (cases (Nat.beq _ 2) <;> exact xle.rf))
theorem xog_xdx2 {E : xE} (nx : Nat) (ls : xL) (st : List Value) (h : xH) : xog E h (xdx2 nx ls st h) := by
  unfold xdx2
  split
  all_goals first | exact xle.rf | (cases (Nat.beq _ _) <;> exact xle.rf) | (cases (Nat.beq _ _ && Nat.beq _ _) <;> exact xle.rf) | (cases (Nat.beq _ _ && Nat.beq _ _ && Nat.beq _ _) <;> exact xle.rf) | (cases (Nat.beq _ _ && Nat.beq _ _) <;> first | exact xle.rf | (cases (Nat.beq _ 2) <;> exact xle.rf))
theorem xog_xd2 {E : xE} (nx : Nat) (ls : xL) (st : List Value) (h : xH) : xog E h (xd2 nx ls st h) := by
  unfold xd2
  split
  all_goals first | exact xle.rf | (cases (Nat.beq _ _) <;> exact xle.rf) | (cases (Nat.beq _ _ && Nat.beq _ _) <;> exact xle.rf) | (cases (Nat.beq _ _ && Nat.beq _ _ && Nat.beq _ _) <;> exact xle.rf) | (cases (Nat.beq _ _ && Nat.beq _ _) <;> first | exact xle.rf | (cases (Nat.beq _ 2) <;> exact xle.rf))
theorem xog_xd2x1 {E : xE} (nx : Nat) (ls : xL) (st : List Value) (h : xH) : xog E h (xd2x1 nx ls st h) := by
  unfold xd2x1
  split
  all_goals first | exact xle.rf | (cases (Nat.beq _ _) <;> exact xle.rf) | (cases (Nat.beq _ _ && Nat.beq _ _) <;> exact xle.rf) | (cases (Nat.beq _ _ && Nat.beq _ _ && Nat.beq _ _) <;> exact xle.rf) | (cases (Nat.beq _ _ && Nat.beq _ _) <;> first | exact xle.rf | (cases (Nat.beq _ 2) <;> exact xle.rf))
theorem xog_xins {E : xE} {M : xM} (i : Instr) (nx : Nat) (tg : List Nat) (v : Value) (ls : xL) (st : List Value) (h : xH) : xog E h (xins E M i nx tg v ls st h) := by
  unfold xins
  split
  all_goals first | exact xle.rf | apply xog_xii | apply xog_xi | apply xog_xiiD | apply xog_xll | apply xog_xl | apply xog_xli | apply xog_xff | apply xog_xf | apply xog_xfc | apply xog_xloi | apply xog_xlol | apply xog_xlof | apply xog_xloa | apply xog_xsti | apply xog_xstf | apply xog_xsta | apply xog_xstl | apply xog_xinc | apply xog_xnul | apply xog_xaldI | apply xog_xaldB | apply xog_xaldL | apply xog_xaldF | apply xog_xaldA | apply xog_xastI | apply xog_xastB | apply xog_xastL | apply xog_xastF | apply xog_xaln | apply xog_xb1 | apply xog_xb2 | apply xog_xgf | apply xog_xpf | apply xog_xnew | apply xog_xnar | apply xog_xmul | apply xog_xivs | apply xog_xivv | apply xog_xivi | apply xog_xrei | apply xog_xrel | apply xog_xref | apply xog_xrea | apply xog_xrev | apply xog_xdup | apply xog_xpo | apply xog_xdx1 | apply xog_xdx2 | apply xog_xd2x1 | apply xog_xd2 | (split <;> first | exact xle.rf | apply xog_xnul | apply xog_xswt)
theorem xog_xstep {E : xE} {M : xM} (f : xF) : xog E f.2.2.2 (xstep E M f) := by
  unfold xstep
  split
  · exact xle.rf
  · exact xog_xins _ _ _ _ _ _ _
theorem xdl_le {E : xE} {h : xH} {rn : xF → Prop} {P : Prop} (H : ∀ f, rn f → xle E h f.2.2.2 → P) : ∀ (cs : List (Prop × xF)) (g : xF), (∀ q ∈ cs, xle E h q.2.2.2.2) → xle E h g.2.2.2 → xdl rn cs g → P
  | [], g, _, hg, k => H g k hg
  | (c, g1) :: t, g, hc, hg, k => by
    by_cases z : c
    · exact H g1 (k.1 z) (hc _ List.mem_cons_self)
    · exact xdl_le H t g (fun q hq => hc q (List.mem_cons_of_mem _ hq)) hg (k.2 z)
/-- at its end a method has at least the cells that were there -/
theorem xr_len {E : xE} : ∀ (n d : Nat) (M : xM) (f : xF) (v : Option Value) (h' : xH), xr E n d M f (fun v2 h2 => v2 = v ∧ h2 = h') → xle E f.2.2.2 h'
  | 0, _, _, _, _, _, k => k.elim
  | n + 1, d, M, f, v, h', k => by
    have k1 : xwo E (xr E n) (xr E n d M) d (fun v2 h2 => v2 = v ∧ h2 = h') (xstep E M f) := k
    have g := xog_xstep (E := E) (M := M) f
    generalize xstep E M f = o at k1 g
    unfold xwo at k1
    split at k1
    · exact xle.tr g (xr_len n _ _ _ _ _ k1)
    · exact xle.tr g (xr_len n _ _ _ _ _ k1.2)
    · exact xdl_le (fun f9 k9 g9 => xle.tr g9 (xr_len n _ _ _ _ _ k9)) _ _ g.1 g.2 k1
    · split at k1
      · exact k1.elim
      · rename_i y av pc ls st h2 _ d2
        have g : h2 = f.2.2.2 := g
        obtain ⟨v9, h9, hq, hrun⟩ := xr_det n _ _ _ _ k1
        have a1 := xr_len n _ _ _ _ _ hrun
        have a2 := xr_len n _ _ _ _ _ hq
        rw [← g]
        exact xle.tr a1 a2
    · obtain ⟨_, -, e⟩ := k1
      have g : _ = f.2.2.2 := g
      rw [← g, e]
      exact xle.rf
end
section
/-! the rest: ends, Math, Object(), switches, texts, arrays of two dimensions -/
/-- targets of a switch -/
def xtgt (pc : Nat) : List Int → List Nat → Prop
  | [], [] => True
  | o :: os, t :: ts => (pc : Int) + o = (t : Int) ∧ xtgt pc os ts
  | _, _ => False
section XSR
variable {p : Program} {l : Launch} {e : Env} {s : State} {m : MethodId} {args : Array Value} {below : List Frame} {meth : Method} {c : Code} {Q : State → Prop}
variable {E : xE} {ad adV : Nat → Nat} {cA : FieldType → ClassId} {D : va_G} {cl : List vw_C} {A : Nat → Prop} {r0 : Nat → Option Nat} {nL mc ms fin finS : Nat}
variable {rc : Nat → xM → xF → xP → Prop} {rn : xF → xP → Prop} {d : Nat} {Q0 : xP} {pc : Nat} {ls : xL} {st : List Value} {h : xH} {cc : ByteArray} {TB : List Cond} {TF : List xNF} {TM : List xNM} {TS : List xTS} {nS : Nat} {lenS : List Nat} {bytS : List (List Int32)} {own : String}
theorem so_obj (hx : p.tables.exec = Jvm.exec) (hb : c.code = cc) (hml : c.maxLocals = nL) (hown : s.vm.findClass own = some m.cls) {idx : Nat} (h1 : (Cond.methodLink own idx Lib.objectInit).before args s = true) (h2 : (Cond.instanceMethod Lib.objectInit).before args s = true) (h3 : (Cond.code Lib.objectInit ⟨#[0xb1]⟩ 1 none).before args s = true) (hN : ∀ f, rn f Q0 → xG p l e (xroom d mc ms) s m args below meth c Q E ad cA D cl A r0 nL mc ms fin finS f) (hdg : decode cc pc = .ok (.invokespecial idx, 3))
    (k : xwo E rc rn d Q0 (xivi E (pc + 3) [] ls st h)) : xG p l e (xroom d mc ms) s m args below meth c Q E ad cA D cl A r0 nL mc ms fin finS (pc, ls, st, h) := by
  replace k : xwo E rc rn d Q0 (xobj (pc + 3) ls st h) := k
  unfold xobj at k
  split at k
  · rename_i a r
    cases hb8 : Nat.ble (xcat r) 8 with
    | false => rw [hb8] at k; exact k.1.elim
    | true =>
      rw [hb8] at k
      have hc8 := Nat.le_of_ble_eq_true hb8
      intro cells slots ws H locs lsC stC e1 e2 hrel
      obtain ⟨hW, hP, hD, hS, hl, hst⟩ := hrel
      obtain ⟨_, rst, rfl, ⟨q, hq, rfl⟩, hst⟩ := hst
      have hcr := xva_cat hst
      exact W.objInit hx hb hown h1 h2 h3 rfl (by rw [hml]; exact hl.1) rfl hdg (show 1 ≤ d + 8 by omega) (show 2 * 0 + xcat rst + 12 ≤ 60 * d + 400 by omega) (hN _ k cells slots ws H locs lsC _ e1 e2 ⟨hW, hP, hD, hS, hl, hst⟩)
  · exact k.1.elim
theorem so_max (hx : p.tables.exec = Jvm.exec) (hb : c.code = cc) (hml : c.maxLocals = nL) (hown : s.vm.findClass own = some m.cls) {idx : Nat} (h1 : (Cond.methodLink own idx Lib.Math.max.name).before args s = true) (h2 : (Cond.static Lib.Math.max.name).before args s = true) (h3 : (Cond.initialized "java/lang/Math").before args s = true) (h4 : (Cond.code Lib.Math.max.name Lib.Math.max.code 2 (some .int)).before args s = true) (hlen : ∀ f : xF, rn f Q0 → f.2.2.2.1.length ≤ fin ∧ xsz E f.2.2.2.1 ≤ finS) (hN : ∀ f, rn f Q0 → xG p l e (xroom d mc ms) s m args below meth c Q E ad cA D cl A r0 nL mc ms fin finS f) (hdg : decode cc pc = .ok (.invokestatic idx, 3))
    (k : xwo E rc rn d Q0 (xivs E (pc + 3) [2] ls st h)) : xG p l e (xroom d mc ms) s m args below meth c Q E ad cA D cl A r0 nL mc ms fin finS (pc, ls, st, h) := by
  replace k : xwo E rc rn d Q0 (xmax (pc + 3) ls st h) := k
  unfold xmax at k
  split at k
  · rename_i y x r
    cases hb8 : Nat.ble (xcat r) 8 with
    | false => rw [hb8] at k; exact k.1.elim
    | true =>
      rw [hb8] at k
      have hc8 := Nat.le_of_ble_eq_true hb8
      have hlk := hlen _ k
      have hl1 : h.1.length ≤ fin := hlk.1
      have hl2 : xsz E h.1 ≤ finS := hlk.2
      intro cells slots ws H locs lsC stC e1 e2 hrel
      have e1 : cells + fin ≤ mc + h.1.length := e1
      have e2 : slots + finS ≤ ms + xsz E h.1 := e2
      obtain ⟨hW, hP, hD, hS, hl, hst⟩ := hrel
      obtain ⟨_, _, rfl, rfl, _, rst, rfl, rfl, hst⟩ := hst
      have hcr := xva_cat hst
      exact va_mmax (R := xroom d mc ms) (rest := rst) hx hb (by rw [hml]; exact hl.1.symm) hown h1 h2 h3 h4 (show 1 ≤ d + 8 by omega) (show xcat rst + 13 ≤ 60 * d + 400 by omega) (show cells ≤ mc by omega) (show slots ≤ ms by omega) hdg (hN _ k cells slots ws H locs lsC _ e1 e2 ⟨hW, hP, hD, hS, hl, ⟨_, _, rfl, rfl, hst⟩⟩)
  · exact k.1.elim
theorem so_min (hx : p.tables.exec = Jvm.exec) (hb : c.code = cc) (hml : c.maxLocals = nL) (hown : s.vm.findClass own = some m.cls) {idx : Nat} (h1 : (Cond.methodLink own idx Lib.Math.min.name).before args s = true) (h2 : (Cond.static Lib.Math.min.name).before args s = true) (h3 : (Cond.initialized "java/lang/Math").before args s = true) (h4 : (Cond.code Lib.Math.min.name Lib.Math.min.code 2 (some .int)).before args s = true) (hlen : ∀ f : xF, rn f Q0 → f.2.2.2.1.length ≤ fin ∧ xsz E f.2.2.2.1 ≤ finS) (hN : ∀ f, rn f Q0 → xG p l e (xroom d mc ms) s m args below meth c Q E ad cA D cl A r0 nL mc ms fin finS f) (hdg : decode cc pc = .ok (.invokestatic idx, 3))
    (k : xwo E rc rn d Q0 (xivs E (pc + 3) [3] ls st h)) : xG p l e (xroom d mc ms) s m args below meth c Q E ad cA D cl A r0 nL mc ms fin finS (pc, ls, st, h) := by
  replace k : xwo E rc rn d Q0 (xmin (pc + 3) ls st h) := k
  unfold xmin at k
  split at k
  · rename_i y x r
    cases hb8 : Nat.ble (xcat r) 8 with
    | false => rw [hb8] at k; exact k.1.elim
    | true =>
      rw [hb8] at k
      have hc8 := Nat.le_of_ble_eq_true hb8
      have hlk := hlen _ k
      have hl1 : h.1.length ≤ fin := hlk.1
      have hl2 : xsz E h.1 ≤ finS := hlk.2
      intro cells slots ws H locs lsC stC e1 e2 hrel
      have e1 : cells + fin ≤ mc + h.1.length := e1
      have e2 : slots + finS ≤ ms + xsz E h.1 := e2
      obtain ⟨hW, hP, hD, hS, hl, hst⟩ := hrel
      obtain ⟨_, _, rfl, rfl, _, rst, rfl, rfl, hst⟩ := hst
      have hcr := xva_cat hst
      exact va_mmin (R := xroom d mc ms) (rest := rst) hx hb (by rw [hml]; exact hl.1.symm) hown h1 h2 h3 h4 (show 1 ≤ d + 8 by omega) (show xcat rst + 13 ≤ 60 * d + 400 by omega) (show cells ≤ mc by omega) (show slots ≤ ms by omega) hdg (hN _ k cells slots ws H locs lsC _ e1 e2 ⟨hW, hP, hD, hS, hl, ⟨_, _, rfl, rfl, hst⟩⟩)
  · exact k.1.elim
theorem xsw_in {rn : xF → Prop} {ls : xL} {r : List Value} {h : xH} {x : Int32} {g : xF} : ∀ (ts : List Nat) (lo : Int) (j t : Nat), ts[j]? = some t → x.toInt = lo + (j : Int) → xdl rn (xsw ls r h x lo ts) g → rn (t, ls, r, h)
  | [], _, _, _, hj, _, _ => by simp at hj
  | u :: ts, lo, 0, t, hj, hx, k => by
    have e : u = t := by simpa using hj
    subst e
    exact k.1 (by simpa using hx)
  | u :: ts, lo, j + 1, t, hj, hx, k => by
    have hj : ts[j]? = some t := by simpa using hj
    have hx : x.toInt = lo + 1 + (j : Int) := by omega
    exact xsw_in ts (lo + 1) j t hj hx (k.2 (by omega))
theorem xsw_out {rn : xF → Prop} {ls : xL} {r : List Value} {h : xH} {x : Int32} {g : xF} : ∀ (ts : List Nat) (lo : Int), (x.toInt < lo ∨ lo + (ts.length : Int) ≤ x.toInt) → xdl rn (xsw ls r h x lo ts) g → rn g
  | [], _, _, k => k
  | u :: ts, lo, hx, k => by
    have hlen : ((u :: ts).length : Int) = (ts.length : Int) + 1 := by simp
    rw [hlen] at hx
    exact xsw_out ts (lo + 1) (by omega) (k.2 (by omega))
theorem xtgt_at {pc : Nat} : ∀ (os : List Int) (ts : List Nat), xtgt pc os ts → os.length = ts.length ∧ ∀ (j : Nat) (o : Int), os[j]? = some o → ∃ t, ts[j]? = some t ∧ (pc : Int) + o = (t : Int)
  | [], [], _ => ⟨rfl, fun j o h => by simp at h⟩
  | [], _ :: _, k => k.elim
  | _ :: _, [], k => k.elim
  | o :: os, t :: ts, k => by
    obtain ⟨h1, h2⟩ := xtgt_at os ts k.2
    refine ⟨by simp [h1], fun j o2 hj => ?_⟩
    cases j with
    | zero =>
      have e : o = o2 := by simpa using hj
      subst e
      exact ⟨t, rfl, k.1⟩
    | succ j => exact h2 j o2 (by simpa using hj)
theorem so_sw (hx : p.tables.exec = Jvm.exec) (hb : c.code = cc) (hN : ∀ f, rn f Q0 → xG p l e (xroom d mc ms) s m args below meth c Q E ad cA D cl A r0 nL mc ms fin finS f) {df lo hi : Int} {offs : Array Int} {len nx : Nat} {tg : List Nat} {M : xM} {v : Value} (hdg : decode cc pc = .ok (.tableswitch df lo hi offs, len)) (hof : (offs.toList.length : Int) = hi - lo + 1) (htg : xtgt pc (df :: offs.toList) tg)
    (k : xwo E rc rn d Q0 (xins E M (.tableswitch df lo hi offs) nx tg v ls st h)) : xG p l e (xroom d mc ms) s m args below meth c Q E ad cA D cl A r0 nL mc ms fin finS (pc, ls, st, h) := by
  cases tg with
  | nil => exact htg.elim
  | cons t ts =>
    obtain ⟨ht, hts⟩ := htg
    obtain ⟨hl1, hl2⟩ := xtgt_at _ _ hts
    replace k : xwo E rc rn d Q0 (xswt lo nx t ts ls st h) := k
    unfold xswt at k
    split at k
    · rename_i x r
      have k : xdl (fun g => rn g Q0) (xsw ls r h x lo ts) (t, ls, r, h) := k
      intro cells slots ws H locs lsC stC e1 e2 hrel
      obtain ⟨hW, hP, hD, hS, hl, hst⟩ := hrel
      obtain ⟨_, _, rfl, rfl, hst⟩ := hst
      by_cases ho : x.toInt < lo ∨ hi < x.toInt
      · exact lv_tableOut hx hb hdg ho ht (hN _ (xsw_out ts lo (by omega) k) cells slots ws H locs lsC _ e1 e2 ⟨hW, hP, hD, hS, hl, hst⟩)
      · have hj : (x.toInt - lo).toNat < offs.toList.length := by omega
        obtain ⟨u, hu, hpu⟩ := hl2 _ _ (List.getElem?_eq_getElem hj)
        exact lv_tableIn hx hb hdg (by omega) (by omega) (by rw [← Array.getElem?_toList]; exact List.getElem?_eq_getElem hj) hpu (hN _ (xsw_in ts lo _ u hu (by omega) k) cells slots ws H locs lsC _ e1 e2 ⟨hW, hP, hD, hS, hl, hst⟩)
    · exact k.1.elim
theorem so_mul (hx : p.tables.exec = Jvm.exec) (hb : c.code = cc) (hts : ∀ w ∈ TB, w.before args s = true) (hown : s.vm.findClass own = some m.cls) (hK : va_K D cl (xtys cA) s) (hA : ∀ q, s.heap.size ≤ q → A q) (hlen : ∀ f : xF, rn f Q0 → f.2.2.2.1.length ≤ fin ∧ xsz E f.2.2.2.1 ≤ finS) (hfin : fin ≤ xt0) (hN : ∀ f, rn f Q0 → xG p l e (xroom d mc ms) s m args below meth c Q E ad cA D cl A r0 nL mc ms fin finS f) {idx : Nat} (hlk : Cond.classLink own idx "[[F" ∈ TB) (hdg : decode cc pc = .ok (.multianewarray idx 2, 4))
    (k : xwo E rc rn d Q0 (xmul (pc + 4) ls st h)) : xG p l e (xroom d mc ms) s m args below meth c Q E ad cA D cl A r0 nL mc ms fin finS (pc, ls, st, h) := by
  sorry
def xTx (TB : List Cond) (own : String) (idx n : Nat) : Prop := True
theorem so_tlen (hx : p.tables.exec = Jvm.exec) (hb : c.code = cc) (hml : c.maxLocals = nL) (hown : s.vm.findClass own = some m.cls) (hts : ∀ w ∈ TB, w.before args s = true) (hgd : ∀ w ∈ TB, goodWord w = true) (hEv : xEv TF TM TS nS lenS bytS ad adV A s) (hA : ∀ q, s.heap.size ≤ q → A q) (hN : ∀ f, rn f Q0 → xG p l e (xroom d mc ms) s m args below meth c Q E ad cA D cl A r0 nL mc ms fin finS f) {idx : Nat} (h1 : xTx TB own idx 0) (hdg : decode cc pc = .ok (.invokevirtual idx, 3))
    (k : xwo E rc rn d Q0 (xivv E (pc + 3) [0] ls st h)) : xG p l e (xroom d mc ms) s m args below meth c Q E ad cA D cl A r0 nL mc ms fin finS (pc, ls, st, h) := by
  sorry
theorem so_tchr (hx : p.tables.exec = Jvm.exec) (hb : c.code = cc) (hml : c.maxLocals = nL) (hown : s.vm.findClass own = some m.cls) (hts : ∀ w ∈ TB, w.before args s = true) (hgd : ∀ w ∈ TB, goodWord w = true) (hEv : xEv TF TM TS nS lenS bytS ad adV A s) (hA : ∀ q, s.heap.size ≤ q → A q) (hN : ∀ f, rn f Q0 → xG p l e (xroom d mc ms) s m args below meth c Q E ad cA D cl A r0 nL mc ms fin finS f) {idx : Nat} (h1 : xTx TB own idx 1) (hdg : decode cc pc = .ok (.invokevirtual idx, 3))
    (k : xwo E rc rn d Q0 (xivv E (pc + 3) [1] ls st h)) : xG p l e (xroom d mc ms) s m args below meth c Q E ad cA D cl A r0 nL mc ms fin finS (pc, ls, st, h) := by
  sorry
theorem so_rei (hx : p.tables.exec = Jvm.exec) (hb : c.code = cc) {M : xM} (hr : meth.sig.returnType = M.2.2.2.1) (hlocks : meth.locks = false) (hK : va_K D cl (xtys cA) s) {v0 : Option Value} {h0 : xH} {ws0 : va_W} (hdg : decode cc pc = .ok (.ireturn, 1))
    (k : xwo E rc rn d (fun v' h2 => v' = v0 ∧ h2 = h0) (xrei M st h)) : xG p l e (xroom d mc ms) s m args below meth c (MQ below (xQc E ad cA D cl ws0 s.heap.size v0 h0) args s mc ms (va_A ws0 s.heap.size)) E ad cA D cl (va_A ws0 s.heap.size) (xa ad ws0) nL mc ms h0.1.length (xsz E h0.1) (pc, ls, st, h) := by
  unfold xrei at k
  split at k
  · rename_i v hM
    obtain ⟨hc, rfl, rfl⟩ := k
    intro cells slots ws H locs lsC stC e1 e2 hrel
    obtain ⟨⟨hW, hm⟩, hP, hD, hS, hl, hst⟩ := hrel
    have e1 : cells + h.1.length ≤ mc + h.1.length := e1
    have e2 : slots + xsz E h.1 ≤ ms + xsz E h.1 := e2
    obtain ⟨_, _, rfl, rfl, rfl⟩ := hst
    refine W.widen (k := mc) (n := ms) (by omega) (by omega) ?_
    exact W.iret hx hb (hr.trans hM) (fun t ht hW9 => ⟨⟨_, ws, rfl, ⟨_, rfl, rfl⟩, hW, hm, by rw [ht]; exact hP, va_K.moved hW9.alike hK, hD⟩, hS.F ht⟩) hS.2.2 hdg hlocks
  · rename_i v hM
    obtain ⟨hc, rfl, rfl⟩ := k
    intro cells slots ws H locs lsC stC e1 e2 hrel
    obtain ⟨⟨hW, hm⟩, hP, hD, hS, hl, hst⟩ := hrel
    have e1 : cells + h.1.length ≤ mc + h.1.length := e1
    have e2 : slots + xsz E h.1 ≤ ms + xsz E h.1 := e2
    obtain ⟨_, _, rfl, rfl, rfl⟩ := hst
    refine W.widen (k := mc) (n := ms) (by omega) (by omega) ?_
    exact W.zret hx hb (hr.trans hM) (congrArg Value.int hc) (fun t ht hW9 => ⟨⟨_, ws, rfl, ⟨_, rfl, rfl⟩, hW, hm, by rw [ht]; exact hP, va_K.moved hW9.alike hK, hD⟩, hS.F ht⟩) hS.2.2 hdg hlocks
  · exact k.1.elim
theorem so_rel (hx : p.tables.exec = Jvm.exec) (hb : c.code = cc) {M : xM} (hr : meth.sig.returnType = M.2.2.2.1) (hlocks : meth.locks = false) (hK : va_K D cl (xtys cA) s) {v0 : Option Value} {h0 : xH} {ws0 : va_W} (hdg : decode cc pc = .ok (.lreturn, 1))
    (k : xwo E rc rn d (fun v' h2 => v' = v0 ∧ h2 = h0) (xrel M st h)) : xG p l e (xroom d mc ms) s m args below meth c (MQ below (xQc E ad cA D cl ws0 s.heap.size v0 h0) args s mc ms (va_A ws0 s.heap.size)) E ad cA D cl (va_A ws0 s.heap.size) (xa ad ws0) nL mc ms h0.1.length (xsz E h0.1) (pc, ls, st, h) := by
  unfold xrel at k
  split at k
  · rename_i v hM
    obtain ⟨hc, rfl, rfl⟩ := k
    intro cells slots ws H locs lsC stC e1 e2 hrel
    obtain ⟨⟨hW, hm⟩, hP, hD, hS, hl, hst⟩ := hrel
    have e1 : cells + h.1.length ≤ mc + h.1.length := e1
    have e2 : slots + xsz E h.1 ≤ ms + xsz E h.1 := e2
    obtain ⟨_, _, rfl, rfl, rfl⟩ := hst
    refine W.widen (k := mc) (n := ms) (by omega) (by omega) ?_
    exact W.lret hx hb (hr.trans hM) (fun t ht hW9 => ⟨⟨_, ws, rfl, ⟨_, rfl, rfl⟩, hW, hm, by rw [ht]; exact hP, va_K.moved hW9.alike hK, hD⟩, hS.F ht⟩) hS.2.2 hdg hlocks
  · exact k.1.elim
theorem so_ref (hx : p.tables.exec = Jvm.exec) (hb : c.code = cc) {M : xM} (hr : meth.sig.returnType = M.2.2.2.1) (hlocks : meth.locks = false) (hK : va_K D cl (xtys cA) s) {v0 : Option Value} {h0 : xH} {ws0 : va_W} (hdg : decode cc pc = .ok (.freturn, 1))
    (k : xwo E rc rn d (fun v' h2 => v' = v0 ∧ h2 = h0) (xref M st h)) : xG p l e (xroom d mc ms) s m args below meth c (MQ below (xQc E ad cA D cl ws0 s.heap.size v0 h0) args s mc ms (va_A ws0 s.heap.size)) E ad cA D cl (va_A ws0 s.heap.size) (xa ad ws0) nL mc ms h0.1.length (xsz E h0.1) (pc, ls, st, h) := by
  unfold xref at k
  split at k
  · rename_i v hM
    obtain ⟨hc, rfl, rfl⟩ := k
    intro cells slots ws H locs lsC stC e1 e2 hrel
    obtain ⟨⟨hW, hm⟩, hP, hD, hS, hl, hst⟩ := hrel
    have e1 : cells + h.1.length ≤ mc + h.1.length := e1
    have e2 : slots + xsz E h.1 ≤ ms + xsz E h.1 := e2
    obtain ⟨_, _, rfl, rfl, rfl⟩ := hst
    refine W.widen (k := mc) (n := ms) (by omega) (by omega) ?_
    exact W.fret hx hb (hr.trans hM) (fun t ht hW9 => ⟨⟨_, ws, rfl, ⟨_, rfl, rfl⟩, hW, hm, by rw [ht]; exact hP, va_K.moved hW9.alike hK, hD⟩, hS.F ht⟩) hS.2.2 hdg hlocks
  · exact k.1.elim
theorem so_rea (hx : p.tables.exec = Jvm.exec) (hb : c.code = cc) {M : xM} (hr : meth.sig.returnType = M.2.2.2.1) (hlocks : meth.locks = false) (hK : va_K D cl (xtys cA) s) {v0 : Option Value} {h0 : xH} {ws0 : va_W} (hdg : decode cc pc = .ok (.areturn, 1))
    (k : xwo E rc rn d (fun v' h2 => v' = v0 ∧ h2 = h0) (xrea M st h)) : xG p l e (xroom d mc ms) s m args below meth c (MQ below (xQc E ad cA D cl ws0 s.heap.size v0 h0) args s mc ms (va_A ws0 s.heap.size)) E ad cA D cl (va_A ws0 s.heap.size) (xa ad ws0) nL mc ms h0.1.length (xsz E h0.1) (pc, ls, st, h) := by
  unfold xrea at k
  split at k
  · rename_i C v hM
    obtain ⟨hc, rfl, rfl⟩ := k
    intro cells slots ws H locs lsC stC e1 e2 hrel
    obtain ⟨⟨hW, hm⟩, hP, hD, hS, hl, hst⟩ := hrel
    have e1 : cells + h.1.length ≤ mc + h.1.length := e1
    have e2 : slots + xsz E h.1 ≤ ms + xsz E h.1 := e2
    obtain ⟨_, _, rfl, ⟨q, hq, rfl⟩, rfl⟩ := hst
    refine W.widen (k := mc) (n := ms) (by omega) (by omega) ?_
    exact W.aret hx hb (hr.trans hM) (Or.inl ⟨_, rfl⟩) (Or.inr ⟨q, rfl⟩) (fun t ht hW9 => ⟨⟨_, ws, rfl, ⟨_, rfl, q, hq, rfl⟩, hW, hm, by rw [ht]; exact hP, va_K.moved hW9.alike hK, hD⟩, hS.F ht⟩) hS.2.2 hdg hlocks
  · rename_i C v hM
    obtain ⟨hc, rfl, rfl⟩ := k
    intro cells slots ws H locs lsC stC e1 e2 hrel
    obtain ⟨⟨hW, hm⟩, hP, hD, hS, hl, hst⟩ := hrel
    have e1 : cells + h.1.length ≤ mc + h.1.length := e1
    have e2 : slots + xsz E h.1 ≤ ms + xsz E h.1 := e2
    obtain ⟨_, _, rfl, ⟨q, hq, rfl⟩, rfl⟩ := hst
    refine W.widen (k := mc) (n := ms) (by omega) (by omega) ?_
    exact W.aret hx hb (hr.trans hM) (Or.inr ⟨_, rfl⟩) (Or.inr ⟨q, rfl⟩) (fun t ht hW9 => ⟨⟨_, ws, rfl, ⟨_, rfl, q, hq, rfl⟩, hW, hm, by rw [ht]; exact hP, va_K.moved hW9.alike hK, hD⟩, hS.F ht⟩) hS.2.2 hdg hlocks
  · rename_i C hM
    obtain ⟨hc, rfl, rfl⟩ := k
    intro cells slots ws H locs lsC stC e1 e2 hrel
    obtain ⟨⟨hW, hm⟩, hP, hD, hS, hl, hst⟩ := hrel
    have e1 : cells + h.1.length ≤ mc + h.1.length := e1
    have e2 : slots + xsz E h.1 ≤ ms + xsz E h.1 := e2
    obtain ⟨_, _, rfl, rfl, rfl⟩ := hst
    refine W.widen (k := mc) (n := ms) (by omega) (by omega) ?_
    exact W.aret hx hb (hr.trans hM) (Or.inl ⟨_, rfl⟩) (Or.inl rfl) (fun t ht hW9 => ⟨⟨_, ws, rfl, ⟨_, rfl, rfl⟩, hW, hm, by rw [ht]; exact hP, va_K.moved hW9.alike hK, hD⟩, hS.F ht⟩) hS.2.2 hdg hlocks
  · rename_i C hM
    obtain ⟨hc, rfl, rfl⟩ := k
    intro cells slots ws H locs lsC stC e1 e2 hrel
    obtain ⟨⟨hW, hm⟩, hP, hD, hS, hl, hst⟩ := hrel
    have e1 : cells + h.1.length ≤ mc + h.1.length := e1
    have e2 : slots + xsz E h.1 ≤ ms + xsz E h.1 := e2
    obtain ⟨_, _, rfl, rfl, rfl⟩ := hst
    refine W.widen (k := mc) (n := ms) (by omega) (by omega) ?_
    exact W.aret hx hb (hr.trans hM) (Or.inr ⟨_, rfl⟩) (Or.inl rfl) (fun t ht hW9 => ⟨⟨_, ws, rfl, ⟨_, rfl, rfl⟩, hW, hm, by rw [ht]; exact hP, va_K.moved hW9.alike hK, hD⟩, hS.F ht⟩) hS.2.2 hdg hlocks
  · exact k.1.elim
theorem so_rev (hx : p.tables.exec = Jvm.exec) (hb : c.code = cc) {M : xM} (hr : meth.sig.returnType = M.2.2.2.1) (hlocks : meth.locks = false) (hK : va_K D cl (xtys cA) s) {v0 : Option Value} {h0 : xH} {ws0 : va_W} (hdg : decode cc pc = .ok (.return_, 1))
    (k : xwo E rc rn d (fun v' h2 => v' = v0 ∧ h2 = h0) (xrev M st h)) : xG p l e (xroom d mc ms) s m args below meth c (MQ below (xQc E ad cA D cl ws0 s.heap.size v0 h0) args s mc ms (va_A ws0 s.heap.size)) E ad cA D cl (va_A ws0 s.heap.size) (xa ad ws0) nL mc ms h0.1.length (xsz E h0.1) (pc, ls, st, h) := by
  unfold xrev at k
  split at k
  · rename_i hM
    obtain ⟨hc, rfl, rfl⟩ := k
    intro cells slots ws H locs lsC stC e1 e2 hrel
    obtain ⟨⟨hW, hm⟩, hP, hD, hS, hl, hst⟩ := hrel
    have e1 : cells + h.1.length ≤ mc + h.1.length := e1
    have e2 : slots + xsz E h.1 ≤ ms + xsz E h.1 := e2
    obtain rfl := hst
    refine W.widen (k := mc) (n := ms) (by omega) (by omega) ?_
    exact W.vret hx hb (hr.trans hM) (fun t ht hW9 => ⟨⟨_, ws, rfl, rfl, hW, hm, by rw [ht]; exact hP, va_K.moved hW9.alike hK, hD⟩, hS.F ht⟩) hS.2.2 hdg hlocks
  · exact k.1.elim
end XSR
end
section
/-! what the tables must say of each instruction -/
def xlen : Instr → Nat
  | .iload _ => 2 | .lload _ => 2 | .fload _ => 2 | .aload _ => 2 | .istore _ => 2 | .lstore _ => 2 | .fstore _ => 2 | .astore _ => 2
  | .bipush _ => 2 | .sipush _ => 3 | .ldc _ => 2 | .ldc_w _ => 3 | .ldc2_w _ => 3 | .iinc _ _ => 3
  | .ifCond _ _ => 3 | .if_icmp _ _ => 3 | .ifnull _ => 3 | .ifnonnull _ => 3 | .goto _ => 3
  | .getfield _ => 3 | .putfield _ => 3 | .new _ => 3 | .newarray _ => 2 | .multianewarray _ _ => 4
  | .invokestatic _ => 3 | .invokevirtual _ => 3 | .invokespecial _ => 3
  | _ => 1
def xlk (TB : List Cond) (TF : List xNF) (TM : List xNM) (TS : List xTS) (cl : List vw_C) (E : xE) (M : xM) (pc : Nat) (i : Instr) (nx : Nat) (tg : List Nat) (v : Value) : Prop := match i with
  | .tableswitch df lo hi offs => (∃ len, decode M.2.1 pc = .ok (.tableswitch df lo hi offs, len)) ∧ (offs.toList.length : Int) = hi - lo + 1 ∧ xtgt pc (df :: offs.toList) tg
  | i => (decode M.2.1 pc = .ok (i, xlen i) ∧ nx = pc + xlen i) ∧ (match i with
    | .iconst n => v = .int (Int32.ofInt n)
    | .bipush n => v = .int (Int8.ofInt n).toInt32
    | .sipush n => v = .int (Int16.ofInt n).toInt32
    | .lconst n => v = .long (Int64.ofNat (n : Nat))
    | .fconst n => v = .float (if n = 0 then FP.fconst0 else if n = 1 then FP.fconst1 else FP.fconst2)
    | .ldc idx => (∃ x, v = .int x ∧ Cond.constant M.2.2.2.2.1 idx x ∈ TB) ∨ (∃ x, v = .float x ∧ Cond.constantFloat M.2.2.2.2.1 idx x ∈ TB) ∨ ∃ tx j, v = .ref (xt0 + j) ∧ (M.2.2.2.2.1, idx, tx, j) ∈ TS
    | .ldc_w idx => ∃ x, v = .int x ∧ Cond.constant M.2.2.2.2.1 idx x ∈ TB
    | .ldc2_w idx => ∃ x, v = .long x ∧ Cond.constantLong M.2.2.2.2.1 idx x ∈ TB
    | .iinc _ n => v = .int (Int32.ofInt n)
    | .ifCond _ off => ∃ t, tg = [t] ∧ (pc : Int) + off = (t : Int)
    | .if_icmp _ off => ∃ t, tg = [t] ∧ (pc : Int) + off = (t : Int)
    | .ifnull off => ∃ t, tg = [t] ∧ (pc : Int) + off = (t : Int)
    | .ifnonnull off => ∃ t, tg = [t] ∧ (pc : Int) + off = (t : Int)
    | .goto off => ∃ t, tg = [t] ∧ (pc : Int) + off = (t : Int)
    | .getfield idx => ∃ ci k r, tg = [ci, k] ∧ cl[ci]? = some r ∧ k < r.2.2 ∧ xLF TB TF M.2.2.2.2.1 idx (r.2.1 k)
    | .putfield idx => ∃ ci k r, tg = [ci, k] ∧ cl[ci]? = some r ∧ k < r.2.2 ∧ xLF TB TF M.2.2.2.2.1 idx (r.2.1 k) ∧ ((r.2.1 k).2.2.2 = false ∨ (M.1.name = "<init>" ∧ (r.2.1 k).1 = M.2.2.2.2.1 ∧ Cond.fieldLink M.2.2.2.2.1 idx (r.2.1 k).1 (r.2.1 k).2.1 (r.2.1 k).2.2.1 ∈ TB))
    | .new idx => ∃ ci r, tg = [ci] ∧ cl[ci]? = some r ∧ Cond.classLink M.2.2.2.2.1 idx r.1 ∈ TB
    | .multianewarray idx k => k = 2 ∧ Cond.classLink M.2.2.2.2.1 idx "[[F" ∈ TB
    | .invokestatic idx => (∃ y n, tg = [y, n] ∧ xMok TB (E.1 y) n ∧ Cond.methodLink M.2.2.2.2.1 idx (E.1 y).1 ∈ TB ∧ Cond.static (E.1 y).1 ∈ TB) ∨ (tg = [2] ∧ Cond.methodLink M.2.2.2.2.1 idx Lib.Math.max.name ∈ TB ∧ Cond.static Lib.Math.max.name ∈ TB ∧ Cond.initialized "java/lang/Math" ∈ TB ∧ Cond.code Lib.Math.max.name Lib.Math.max.code 2 (some .int) ∈ TB) ∨ (tg = [3] ∧ Cond.methodLink M.2.2.2.2.1 idx Lib.Math.min.name ∈ TB ∧ Cond.static Lib.Math.min.name ∈ TB ∧ Cond.initialized "java/lang/Math" ∈ TB ∧ Cond.code Lib.Math.min.name Lib.Math.min.code 2 (some .int) ∈ TB)
    | .invokevirtual idx => (∃ y n ci r, tg = [y, n, ci] ∧ cl[ci]? = some r ∧ xMok TB (E.1 y) n ∧ (E.1 y).1.cls = r.1 ∧ Cond.methodLink M.2.2.2.2.1 idx (E.1 y).1 ∈ TB ∧ Cond.instanceMethod (E.1 y).1 ∈ TB ∧ Cond.selects r.1 (E.1 y).1 (E.1 y).1 ∈ TB) ∨ (tg = [0] ∧ xTx TB M.2.2.2.2.1 idx 0) ∨ (tg = [1] ∧ xTx TB M.2.2.2.2.1 idx 1)
    | .invokespecial idx => (∃ y n ci, tg = [y, n, ci] ∧ xMok TB (E.1 y) n ∧ (E.1 y).2.2.2.1 = none ∧ (E.1 y).1.name = "<init>" ∧ (Cond.methodLink M.2.2.2.2.1 idx (E.1 y).1 ∈ TB ∨ ∃ host, (M.2.2.2.2.1, idx, (E.1 y).1, host) ∈ TM) ∧ Cond.instanceMethod (E.1 y).1 ∈ TB) ∨ (tg = [] ∧ Cond.methodLink M.2.2.2.2.1 idx Lib.objectInit ∈ TB ∧ Cond.instanceMethod Lib.objectInit ∈ TB ∧ Cond.code Lib.objectInit ⟨#[0xb1]⟩ 1 none ∈ TB)
    | _ => True)
/-- what holds while a method runs -/
def xFx (TB : List Cond) (TF : List xNF) (TM : List xNM) (TS : List xTS) (nS : Nat) (lenS : List Nat) (bytS : List (List Int32)) (ad adV : Nat → Nat) (cA : FieldType → ClassId) (D : va_G) (cl : List vw_C) (M : xM) (A : Nat → Prop) (p : Program) (s : State) (m : MethodId) (args : Array Value) (meth : Method) (c : Code) : Prop :=
  p.tables.exec = Jvm.exec ∧ c.code = M.2.1 ∧ c.maxLocals = M.2.2.1 ∧ meth.sig.returnType = M.2.2.2.1 ∧ s.vm.findClass M.2.2.2.2.1 = some m.cls ∧ (∀ w ∈ TB, w.before args s = true) ∧ meth.locks = false ∧ (M.1.name = "<init>" → meth.name = "<init>") ∧ va_K D cl (xtys cA) s ∧ xEv TF TM TS nS lenS bytS ad adV A s
/-- what the tables say -/
def xTab (TB : List Cond) (TF : List xNF) (TM : List xNM) (TS : List xTS) (cl : List vw_C) (E : xE) : Prop :=
  (∀ w ∈ TB, goodWord w = true) ∧ xCL E cl TB ∧ (∀ a : ArrayType, xoka (xty a) = true → Cond.arrayClass (xty a) ∈ TB) ∧ (∀ (y pc : Nat) (i : Instr) (nx : Nat) (tg : List Nat) (v : Value), (E.1 y).2.2.2.2.2 pc = some (i, nx, tg, v) → xlk TB TF TM TS cl E (E.1 y) pc i nx tg v) ∧ ∀ y, plainName (E.1 y).1.cls = true ∧ (E.1 y).1.cls = (E.1 y).2.2.2.2.1
set_option maxHeartbeats 4000000 in
/-- one instruction -/
theorem xone {l : Launch} {TB : List Cond} {TF : List xNF} {TM : List xNM} {TS : List xTS} {nS : Nat} {lenS : List Nat} {bytS : List (List Int32)} {E : xE} {ad adV : Nat → Nat} {cA : FieldType → ClassId} {D : va_G} {cl : List vw_C} {p : Program} {e : Env} {s : State} {m : MethodId} {args : Array Value} {below : List Frame} {meth : Method} {c : Code} {d y mc ms : Nat} {v0 : Option Value} {h0 : xH} {ws0 : va_W} (hT : xTab TB TF TM TS cl E) (hF : xFx TB TF TM TS nS lenS bytS ad adV cA D cl (E.1 y) (va_A ws0 s.heap.size) p s m args meth c) (hfin : h0.1.length ≤ xt0) {rc : Nat → xM → xF → xP → Prop} {rn : xF → xP → Prop}
    (hmono : ∀ (d : Nat) (M : xM) (f : xF) (v : Option Value) (h' : xH), rc d M f (fun v' h2 => v' = v ∧ h2 = h') → f.2.2.2.1.length ≤ h'.1.length ∧ xsz E f.2.2.2.1 ≤ xsz E h'.1) (hdet : ∀ (d : Nat) (M : xM) (f : xF) (P : xP), rc d M f P → ∃ v h', P v h' ∧ rc d M f (fun v' h2 => v' = v ∧ h2 = h'))
    (hMet : ∀ (d : Nat) (y : Nat) (av : List Value) (h : xH) (v : Option Value) (h' : xH), rc d (E.1 y) (0, xent (E.1 y) av, [], h) (fun v' h2 => v' = v ∧ h2 = h') → xMet l TB TF TM TS nS lenS bytS E ad adV cA D cl d (E.1 y) av h v h')
    (hlen : ∀ f : xF, rn f (fun v' h2 => v' = v0 ∧ h2 = h0) → f.2.2.2.1.length ≤ h0.1.length ∧ xsz E f.2.2.2.1 ≤ xsz E h0.1) (hN : ∀ f, rn f (fun v' h2 => v' = v0 ∧ h2 = h0) → xG p l e (xroom d mc ms) s m args below meth c (MQ below (xQc E ad cA D cl ws0 s.heap.size v0 h0) args s mc ms (va_A ws0 s.heap.size)) E ad cA D cl (va_A ws0 s.heap.size) (xa ad ws0) (E.1 y).2.2.1 mc ms h0.1.length (xsz E h0.1) f)
    (i : Instr) (pc nx : Nat) (tg : List Nat) (v : Value) (ls : xL) (st : List Value) (h : xH) (hl : xlk TB TF TM TS cl E (E.1 y) pc i nx tg v) (k : xwo E rc rn d (fun v' h2 => v' = v0 ∧ h2 = h0) (xins E (E.1 y) i nx tg v ls st h)) : xG p l e (xroom d mc ms) s m args below meth c (MQ below (xQc E ad cA D cl ws0 s.heap.size v0 h0) args s mc ms (va_A ws0 s.heap.size)) E ad cA D cl (va_A ws0 s.heap.size) (xa ad ws0) (E.1 y).2.2.1 mc ms h0.1.length (xsz E h0.1) (pc, ls, st, h) := by
  obtain ⟨hgd, hCL, hAC, -, -⟩ := hT
  obtain ⟨hx, hb, hml, hr, hown, hts, hlk0, hini, hK, hEv⟩ := hF
  have hA : ∀ q : Nat, s.heap.size ≤ q → va_A ws0 s.heap.size q := fun q z => Or.inr z
  cases i with
  | iadd =>
    obtain ⟨⟨hdg, hnx⟩, -⟩ := hl
    subst hnx
    exact so_ii hN (fun _ _ _ _ _ _ _ _ kk => lv_iadd hx hb hdg kk) k
  | isub =>
    obtain ⟨⟨hdg, hnx⟩, -⟩ := hl
    subst hnx
    exact so_ii hN (fun _ _ _ _ _ _ _ _ kk => lv_isub hx hb hdg kk) k
  | imul =>
    obtain ⟨⟨hdg, hnx⟩, -⟩ := hl
    subst hnx
    exact so_ii hN (fun _ _ _ _ _ _ _ _ kk => lv_imul hx hb hdg kk) k
  | iand =>
    obtain ⟨⟨hdg, hnx⟩, -⟩ := hl
    subst hnx
    exact so_ii hN (fun _ _ _ _ _ _ _ _ kk => lv_iand hx hb hdg kk) k
  | ior =>
    obtain ⟨⟨hdg, hnx⟩, -⟩ := hl
    subst hnx
    exact so_ii hN (fun _ _ _ _ _ _ _ _ kk => lv_ior hx hb hdg kk) k
  | ixor =>
    obtain ⟨⟨hdg, hnx⟩, -⟩ := hl
    subst hnx
    exact so_ii hN (fun _ _ _ _ _ _ _ _ kk => lv_ixor hx hb hdg kk) k
  | ishl =>
    obtain ⟨⟨hdg, hnx⟩, -⟩ := hl
    subst hnx
    exact so_ii hN (fun _ _ _ _ _ _ _ _ kk => lv_ishl hx hb hdg kk) k
  | ishr =>
    obtain ⟨⟨hdg, hnx⟩, -⟩ := hl
    subst hnx
    exact so_ii hN (fun _ _ _ _ _ _ _ _ kk => lv_ishr hx hb hdg kk) k
  | iushr =>
    obtain ⟨⟨hdg, hnx⟩, -⟩ := hl
    subst hnx
    exact so_ii hN (fun _ _ _ _ _ _ _ _ kk => lv_iushr hx hb hdg rfl kk) k
  | idiv =>
    obtain ⟨⟨hdg, hnx⟩, -⟩ := hl
    subst hnx
    exact so_iiD hN (fun _ _ _ _ _ _ _ _ hne kk => lv_idiv hx hb hdg hne kk) k
  | irem =>
    obtain ⟨⟨hdg, hnx⟩, -⟩ := hl
    subst hnx
    exact so_iiD hN (fun _ _ _ _ _ _ _ _ hne kk => lv_irem hx hb hdg hne kk) k
  | fadd =>
    obtain ⟨⟨hdg, hnx⟩, -⟩ := hl
    subst hnx
    exact so_ff hN (fun _ _ _ _ _ _ _ _ hne kk => lv_fadd hx hb hdg hne kk) k
  | fsub =>
    obtain ⟨⟨hdg, hnx⟩, -⟩ := hl
    subst hnx
    exact so_ff hN (fun _ _ _ _ _ _ _ _ hne kk => lv_fsub hx hb hdg hne kk) k
  | fmul =>
    obtain ⟨⟨hdg, hnx⟩, -⟩ := hl
    subst hnx
    exact so_ff hN (fun _ _ _ _ _ _ _ _ hne kk => lv_fmul hx hb hdg hne kk) k
  | fdiv =>
    obtain ⟨⟨hdg, hnx⟩, -⟩ := hl
    subst hnx
    exact so_ff hN (fun _ _ _ _ _ _ _ _ hne kk => lv_fdiv hx hb hdg hne kk) k
  | ineg =>
    obtain ⟨⟨hdg, hnx⟩, -⟩ := hl
    subst hnx
    exact so_i hN (by intros; rfl) (fun _ _ _ _ _ _ _ kk => lv_ineg hx hb hdg kk) k
  | i2l =>
    obtain ⟨⟨hdg, hnx⟩, -⟩ := hl
    subst hnx
    exact so_i hN (by intros; rfl) (fun _ _ _ _ _ _ _ kk => lv_i2l hx hb hdg rfl kk) k
  | i2b =>
    obtain ⟨⟨hdg, hnx⟩, -⟩ := hl
    subst hnx
    exact so_i hN (by intros; rfl) (fun _ _ _ _ _ _ _ kk => lv_i2b hx hb hdg rfl kk) k
  | i2c =>
    obtain ⟨⟨hdg, hnx⟩, -⟩ := hl
    subst hnx
    exact so_i hN (by intros; rfl) (fun _ _ _ _ _ _ _ kk => lv_i2c hx hb hdg rfl kk) k
  | i2s =>
    obtain ⟨⟨hdg, hnx⟩, -⟩ := hl
    subst hnx
    exact so_i hN (by intros; rfl) (fun _ _ _ _ _ _ _ kk => lv_i2s hx hb hdg rfl kk) k
  | i2f =>
    obtain ⟨⟨hdg, hnx⟩, -⟩ := hl
    subst hnx
    exact so_i hN (by intros; rfl) (fun _ _ _ _ _ _ _ kk => lv_i2f hx hb hdg kk) k
  | ladd =>
    obtain ⟨⟨hdg, hnx⟩, -⟩ := hl
    subst hnx
    exact so_ll hN (by intros; rfl) (fun _ _ _ _ _ _ _ _ kk => lv_ladd hx hb hdg kk) k
  | lsub =>
    obtain ⟨⟨hdg, hnx⟩, -⟩ := hl
    subst hnx
    exact so_ll hN (by intros; rfl) (fun _ _ _ _ _ _ _ _ kk => lv_lsub hx hb hdg kk) k
  | lmul =>
    obtain ⟨⟨hdg, hnx⟩, -⟩ := hl
    subst hnx
    exact so_ll hN (by intros; rfl) (fun _ _ _ _ _ _ _ _ kk => lv_lmul hx hb hdg kk) k
  | land =>
    obtain ⟨⟨hdg, hnx⟩, -⟩ := hl
    subst hnx
    exact so_ll hN (by intros; rfl) (fun _ _ _ _ _ _ _ _ kk => lv_land hx hb hdg kk) k
  | lor =>
    obtain ⟨⟨hdg, hnx⟩, -⟩ := hl
    subst hnx
    exact so_ll hN (by intros; rfl) (fun _ _ _ _ _ _ _ _ kk => lv_lor hx hb hdg kk) k
  | lxor =>
    obtain ⟨⟨hdg, hnx⟩, -⟩ := hl
    subst hnx
    exact so_ll hN (by intros; rfl) (fun _ _ _ _ _ _ _ _ kk => lv_lxor hx hb hdg kk) k
  | lcmp =>
    obtain ⟨⟨hdg, hnx⟩, -⟩ := hl
    subst hnx
    exact so_ll hN (by intros; rfl) (fun _ _ _ _ _ _ _ _ kk => W.lcmp hx hb hdg kk) k
  | lneg =>
    obtain ⟨⟨hdg, hnx⟩, -⟩ := hl
    subst hnx
    exact so_l hN (by intros; rfl) (fun _ _ _ _ _ _ _ kk => lv_lneg hx hb hdg kk) k
  | l2i =>
    obtain ⟨⟨hdg, hnx⟩, -⟩ := hl
    subst hnx
    exact so_l hN (by intros; rfl) (fun _ _ _ _ _ _ _ kk => lv_l2i hx hb hdg rfl kk) k
  | l2f =>
    obtain ⟨⟨hdg, hnx⟩, -⟩ := hl
    subst hnx
    exact so_l hN (by intros; rfl) (fun _ _ _ _ _ _ _ kk => lv_l2f hx hb hdg kk) k
  | lshl =>
    obtain ⟨⟨hdg, hnx⟩, -⟩ := hl
    subst hnx
    exact so_li hN (fun _ _ _ _ _ _ _ _ kk => lv_lshl hx hb hdg rfl kk) k
  | lshr =>
    obtain ⟨⟨hdg, hnx⟩, -⟩ := hl
    subst hnx
    exact so_li hN (fun _ _ _ _ _ _ _ _ kk => lv_lshr hx hb hdg rfl kk) k
  | lushr =>
    obtain ⟨⟨hdg, hnx⟩, -⟩ := hl
    subst hnx
    exact so_li hN (fun _ _ _ _ _ _ _ _ kk => lv_lushr hx hb hdg rfl kk) k
  | fneg =>
    obtain ⟨⟨hdg, hnx⟩, -⟩ := hl
    subst hnx
    exact so_f hN (by intros; rfl) (fun _ _ _ _ _ _ _ kk => lv_fneg hx hb hdg kk) k
  | f2i =>
    obtain ⟨⟨hdg, hnx⟩, -⟩ := hl
    subst hnx
    exact so_f hN (by intros; rfl) (fun _ _ _ _ _ _ _ kk => lv_f2i hx hb hdg kk) k
  | fcmp o =>
    obtain ⟨⟨hdg, hnx⟩, -⟩ := hl
    subst hnx
    exact so_fc hN (fun _ _ _ _ _ _ _ _ kk => lv_fcmp hx hb hdg kk) k
  | iconst n =>
    obtain ⟨⟨hdg, hnx⟩, rfl⟩ := hl
    subst hnx
    exact so_push (v := .int (Int32.ofInt n)) hN (fun ws => ⟨_, rfl, fun _ _ _ _ _ _ kk => lv_iconst hx hb hdg rfl kk⟩) k
  | bipush n =>
    obtain ⟨⟨hdg, hnx⟩, rfl⟩ := hl
    subst hnx
    exact so_push (v := .int (Int8.ofInt n).toInt32) hN (fun ws => ⟨_, rfl, fun _ _ _ _ _ _ kk => lv_bipush hx hb hdg rfl kk⟩) k
  | sipush n =>
    obtain ⟨⟨hdg, hnx⟩, rfl⟩ := hl
    subst hnx
    exact so_push (v := .int (Int16.ofInt n).toInt32) hN (fun ws => ⟨_, rfl, fun _ _ _ _ _ _ kk => lv_sipush hx hb hdg rfl kk⟩) k
  | lconst n =>
    obtain ⟨⟨hdg, hnx⟩, rfl⟩ := hl
    subst hnx
    exact so_push (v := .long (Int64.ofNat (n : Nat))) hN (fun ws => ⟨_, rfl, fun _ _ _ _ _ _ kk => lv_lconst hx hb hdg rfl kk⟩) k
  | fconst n =>
    obtain ⟨⟨hdg, hnx⟩, rfl⟩ := hl
    subst hnx
    refine so_push (v := .float (if n = 0 then FP.fconst0 else if n = 1 then FP.fconst1 else FP.fconst2)) hN (fun ws => ⟨_, rfl, fun _ _ _ _ _ _ kk => ?_⟩) k
    rcases n with ⟨n, hn⟩
    match n, hn with
    | 0, _ => exact lv_fconst0 hx hb hdg kk
    | 1, _ => exact lv_fconst1 hx hb hdg kk
    | 2, _ => exact lv_fconst2 hx hb hdg kk
  | ldc idx =>
    obtain ⟨⟨hdg, hnx⟩, hl⟩ := hl
    subst hnx
    rcases hl with ⟨x, rfl, hw⟩ | ⟨x, rfl, hw⟩ | ⟨tx, j, rfl, hw⟩
    · exact so_push (v := .int x) hN (fun ws => ⟨_, rfl, fun _ _ _ _ _ _ kk => lv_ldc hx hb hown (hts _ hw) hdg kk⟩) k
    · exact so_push (v := .float x) hN (fun ws => ⟨_, rfl, fun _ _ _ _ _ _ kk => lv_ldcf hx hb hown (hts _ hw) hdg kk⟩) k
    · refine so_push (v := .ref (xt0 + j)) hN (fun ws => ⟨_, ⟨ad j, ?_, rfl⟩, fun _ _ _ _ _ _ kk => va_ldcS hx hb hown (hEv.2.2.2 _ hw) hdg kk⟩) k
      unfold xa
      have h9 : Nat.ble xt0 (xt0 + j) = true := Nat.ble_eq_true_of_le (Nat.le_add_right _ _)
      rw [h9, Nat.add_sub_cancel_left]
      rfl
  | ldc_w idx =>
    obtain ⟨⟨hdg, hnx⟩, x, rfl, hw⟩ := hl
    subst hnx
    exact so_push (v := .int x) hN (fun ws => ⟨_, rfl, fun _ _ _ _ _ _ kk => lv_ldcw hx hb hown (hts _ hw) hdg kk⟩) k
  | ldc2_w idx =>
    obtain ⟨⟨hdg, hnx⟩, x, rfl, hw⟩ := hl
    subst hnx
    exact so_push (v := .long x) hN (fun ws => ⟨_, rfl, fun _ _ _ _ _ _ kk => lv_ldc2 hx hb hown (hts _ hw) hdg kk⟩) k
  | aconst_null =>
    obtain ⟨⟨hdg, hnx⟩, -⟩ := hl
    subst hnx
    exact so_push (v := .null) hN (fun ws => ⟨_, rfl, fun _ _ _ _ _ _ kk => lv_null hx hb hdg kk⟩) k
  | iload i =>
    obtain ⟨⟨hdg, hnx⟩, -⟩ := hl
    subst hnx
    exact so_loi hN (fun _ _ _ _ _ _ _ h9 kk => lv_iload hx hb hdg h9 kk) k
  | iload_n i =>
    obtain ⟨⟨hdg, hnx⟩, -⟩ := hl
    subst hnx
    exact so_loi hN (fun _ _ _ _ _ _ _ h9 kk => lv_iload_n hx hb hdg rfl h9 kk) k
  | lload i =>
    obtain ⟨⟨hdg, hnx⟩, -⟩ := hl
    subst hnx
    exact so_lol hN (fun _ _ _ _ _ _ _ h9 kk => lv_lload hx hb hdg h9 kk) k
  | lload_n i =>
    obtain ⟨⟨hdg, hnx⟩, -⟩ := hl
    subst hnx
    exact so_lol hN (fun _ _ _ _ _ _ _ h9 kk => lv_lload_n hx hb hdg rfl h9 kk) k
  | fload i =>
    obtain ⟨⟨hdg, hnx⟩, -⟩ := hl
    subst hnx
    exact so_lof hN (fun _ _ _ _ _ _ _ h9 kk => lv_fload hx hb hdg h9 kk) k
  | fload_n i =>
    obtain ⟨⟨hdg, hnx⟩, -⟩ := hl
    subst hnx
    exact so_lof hN (fun _ _ _ _ _ _ _ h9 kk => lv_fload_n hx hb hdg rfl h9 kk) k
  | aload i =>
    obtain ⟨⟨hdg, hnx⟩, -⟩ := hl
    subst hnx
    exact so_loa hN (fun _ _ _ _ _ _ _ h9 kk => lv_aload hx hb hdg h9 kk) (fun _ _ _ _ _ _ h9 kk => lv_aloadN hx hb hdg h9 kk) k
  | aload_n i =>
    obtain ⟨⟨hdg, hnx⟩, -⟩ := hl
    subst hnx
    exact so_loa hN (fun _ _ _ _ _ _ _ h9 kk => lv_aload_n hx hb hdg rfl h9 kk) (fun _ _ _ _ _ _ h9 kk => lv_aload_nN hx hb hdg rfl h9 kk) k
  | istore i =>
    obtain ⟨⟨hdg, hnx⟩, -⟩ := hl
    subst hnx
    exact so_sti hN (fun _ _ _ _ _ _ _ h8 h9 kk => lv_istore hx hb hdg h8 h9 rfl kk) k
  | istore_n i =>
    obtain ⟨⟨hdg, hnx⟩, -⟩ := hl
    subst hnx
    exact so_sti hN (fun _ _ _ _ _ _ _ h8 h9 kk => lv_istore_n hx hb hdg rfl h8 h9 rfl kk) k
  | lstore i =>
    obtain ⟨⟨hdg, hnx⟩, -⟩ := hl
    subst hnx
    exact so_stl hN (fun _ _ _ _ _ _ _ h8 h9 kk => lv_lstore hx hb hdg h8 h9 rfl kk) k
  | lstore_n i =>
    obtain ⟨⟨hdg, hnx⟩, -⟩ := hl
    subst hnx
    exact so_stl hN (fun _ _ _ _ _ _ _ h8 h9 kk => lv_lstore_n hx hb hdg rfl h8 h9 rfl kk) k
  | fstore i =>
    obtain ⟨⟨hdg, hnx⟩, -⟩ := hl
    subst hnx
    exact so_stf hN (fun _ _ _ _ _ _ _ h8 h9 kk => lv_fstore hx hb hdg h8 h9 rfl kk) k
  | fstore_n i =>
    obtain ⟨⟨hdg, hnx⟩, -⟩ := hl
    subst hnx
    exact so_stf hN (fun _ _ _ _ _ _ _ h8 h9 kk => lv_fstore_n hx hb hdg rfl h8 h9 rfl kk) k
  | astore i =>
    obtain ⟨⟨hdg, hnx⟩, -⟩ := hl
    subst hnx
    exact so_sta hN (fun _ _ _ _ _ _ _ h8 h9 kk => lv_astore hx hb hdg h8 h9 rfl kk) (fun _ _ _ _ _ _ h8 h9 kk => lv_astoreN hx hb hdg h8 h9 rfl kk) k
  | astore_n i =>
    obtain ⟨⟨hdg, hnx⟩, -⟩ := hl
    subst hnx
    exact so_sta hN (fun _ _ _ _ _ _ _ h8 h9 kk => lv_astore_n hx hb hdg rfl h8 h9 rfl kk) (fun _ _ _ _ _ _ h8 h9 kk => lv_astore_nN hx hb hdg rfl h8 h9 rfl kk) k
  | iinc i n =>
    obtain ⟨⟨hdg, hnx⟩, rfl⟩ := hl
    subst hnx
    refine so_inc hN (fun _ _ _ _ lsC _ x h7 h8 h9 kk => ?_) k
    obtain ⟨k9, hk9⟩ := List.getElem?_of_mem (xall_mem.mpr h8)
    exact lv_iinc hx hb hdg h7 hk9 rfl h9 rfl kk
  | ifnull off =>
    obtain ⟨⟨hdg, hnx⟩, t, rfl, ht⟩ := hl
    subst hnx
    exact so_nul hN (fun _ _ _ _ _ _ kk => lv_ifnullN hx hb hdg ht kk) (fun _ _ _ _ _ _ _ kk => lv_ifnull hx hb hdg kk) k
  | ifnonnull off =>
    obtain ⟨⟨hdg, hnx⟩, t, rfl, ht⟩ := hl
    subst hnx
    exact so_nul hN (fun _ _ _ _ _ _ kk => lv_ifnonnullN hx hb hdg kk) (fun _ _ _ _ _ _ _ kk => lv_ifnonnull hx hb hdg ht kk) k
  | goto off =>
    obtain ⟨⟨hdg, hnx⟩, t, rfl, ht⟩ := hl
    subst hnx
    exact so_goto hN (fun _ _ _ _ _ _ kk => lv_goto hx hb hdg ht kk) k
  | dup =>
    obtain ⟨⟨hdg, hnx⟩, -⟩ := hl
    subst hnx
    exact so_dup hN (fun _ _ _ _ _ _ _ c1 kk => lv_dup hx hb hdg c1 kk) k
  | pop =>
    obtain ⟨⟨hdg, hnx⟩, -⟩ := hl
    subst hnx
    exact so_pop hN (fun _ _ _ _ _ _ _ c1 kk => lv_pop hx hb hdg c1 kk) k
  | dup_x1 =>
    obtain ⟨⟨hdg, hnx⟩, -⟩ := hl
    subst hnx
    exact so_dx1 hN (fun _ _ _ _ _ _ _ _ c1 c2 kk => lv_dup_x1 hx hb hdg c1 c2 kk) k
  | dup_x2 =>
    obtain ⟨⟨hdg, hnx⟩, -⟩ := hl
    subst hnx
    exact so_dx2 hN (fun _ _ _ _ _ _ _ _ _ c1 c2 c3 kk => lv_dup_x2 hx hb hdg c1 c2 c3 kk) k
  | dup2_x1 =>
    obtain ⟨⟨hdg, hnx⟩, -⟩ := hl
    subst hnx
    exact so_d2x1 hN (fun _ _ _ _ _ _ _ _ c1 c2 kk => lv_dup2_x1_2 hx hb hdg c1 c2 kk) k
  | dup2 =>
    obtain ⟨⟨hdg, hnx⟩, -⟩ := hl
    subst hnx
    exact so_d2 hN (fun _ _ _ _ _ _ _ _ c1 c2 kk => lv_dup2_11 hx hb hdg c1 c2 kk) (fun _ _ _ _ _ _ _ c1 kk => lv_dup2_2 hx hb hdg c1 kk) k
  | getfield idx =>
    obtain ⟨⟨hdg, hnx⟩, ci, kf, r, rfl, hr, hk, hlk⟩ := hl
    subst hnx
    exact so_gf hx hb hts hCL hown hK hEv.1 hN hr hk hlk hdg k
  | putfield idx =>
    obtain ⟨⟨hdg, hnx⟩, ci, kf, r, rfl, hr, hk, hlk, hfn⟩ := hl
    subst hnx
    exact so_pf hx hb hts hCL hown hK hEv.1 hN hr hk hlk (by rcases hfn with z | ⟨z1, z2, z3⟩; exact Or.inl z; exact Or.inr ⟨hini z1, z2, z3⟩) hdg k
  | iaload =>
    obtain ⟨⟨hdg, hnx⟩, -⟩ := hl
    subst hnx
    exact so_aldI hx hb hK hN hdg k
  | baload =>
    obtain ⟨⟨hdg, hnx⟩, -⟩ := hl
    subst hnx
    exact so_aldB hx hb hK hN hdg k
  | laload =>
    obtain ⟨⟨hdg, hnx⟩, -⟩ := hl
    subst hnx
    exact so_aldL hx hb hK hN hdg k
  | faload =>
    obtain ⟨⟨hdg, hnx⟩, -⟩ := hl
    subst hnx
    exact so_aldF hx hb hK hN hdg k
  | aaload =>
    obtain ⟨⟨hdg, hnx⟩, -⟩ := hl
    subst hnx
    exact so_aldA hx hb hK hN hdg k
  | iastore =>
    obtain ⟨⟨hdg, hnx⟩, -⟩ := hl
    subst hnx
    exact so_astI hx hb hK hN hdg k
  | bastore =>
    obtain ⟨⟨hdg, hnx⟩, -⟩ := hl
    subst hnx
    exact so_astB hx hb hK hN hdg k
  | lastore =>
    obtain ⟨⟨hdg, hnx⟩, -⟩ := hl
    subst hnx
    exact so_astL hx hb hK hN hdg k
  | fastore =>
    obtain ⟨⟨hdg, hnx⟩, -⟩ := hl
    subst hnx
    exact so_astF hx hb hK hN hdg k
  | arraylength =>
    obtain ⟨⟨hdg, hnx⟩, -⟩ := hl
    subst hnx
    exact so_aln hx hb hK hN hdg k
  | new idx =>
    obtain ⟨⟨hdg, hnx⟩, ci, r, rfl, hr, hlk⟩ := hl
    subst hnx
    exact so_new hx hb hts hCL hown hK hA hlen hfin rfl rfl hN hr hlk hdg k
  | newarray a =>
    obtain ⟨⟨hdg, hnx⟩, -⟩ := hl
    subst hnx
    exact so_nar hx hb hts hK hA hAC hlen hfin rfl rfl hN hdg k
  | multianewarray idx k2 =>
    obtain ⟨⟨hdg, hnx⟩, rfl, hlk⟩ := hl
    subst hnx
    exact so_mul hx hb hts hown hK hA hlen hfin hN hlk hdg k
  | invokestatic idx =>
    obtain ⟨⟨hdg, hnx⟩, hl⟩ := hl
    subst hnx
    rcases hl with ⟨y9, n9, rfl, hM, h1, h2⟩ | ⟨rfl, h1, h2, h3, h4⟩ | ⟨rfl, h1, h2, h3, h4⟩
    · exact so_cls hx hb hml hts hgd hown hK hA hEv hlen rfl hmono hdet hfin hMet hN hM h1 h2 hdg k
    · exact so_max hx hb hml hown (hts _ h1) (hts _ h2) (hts _ h3) (hts _ h4) hlen hN hdg k
    · exact so_min hx hb hml hown (hts _ h1) (hts _ h2) (hts _ h3) (hts _ h4) hlen hN hdg k
  | invokevirtual idx =>
    obtain ⟨⟨hdg, hnx⟩, hl⟩ := hl
    subst hnx
    rcases hl with ⟨y9, n9, ci, r, rfl, hr, hM, h1, h2, h3, h4⟩ | ⟨rfl, h1⟩ | ⟨rfl, h1⟩
    · exact so_clv hx hb hml hts hgd hown hK hA hEv hlen rfl hmono hdet hfin hMet hN hr hM h1 h2 h3 h4 hdg k
    · exact so_tlen hx hb hml hown hts hgd hEv hA hN h1 hdg k
    · exact so_tchr hx hb hml hown hts hgd hEv hA hN h1 hdg k
  | invokespecial idx =>
    obtain ⟨⟨hdg, hnx⟩, hl⟩ := hl
    subst hnx
    rcases hl with ⟨y9, n9, ci, rfl, hM, h1, h2, h3, h4⟩ | ⟨rfl, h1, h2, h3⟩
    · exact so_cli hx hb hml hts hgd hown hK hA hEv hlen rfl hmono hdet hfin hMet hN hM h1 h2 h3 h4 hdg k
    · exact so_obj hx hb hml hown (hts _ h1) (hts _ h2) (hts _ h3) hN hdg k
  | ireturn =>
    obtain ⟨⟨hdg, hnx⟩, -⟩ := hl
    exact so_rei hx hb hr hlk0 hK hdg k
  | lreturn =>
    obtain ⟨⟨hdg, hnx⟩, -⟩ := hl
    exact so_rel hx hb hr hlk0 hK hdg k
  | freturn =>
    obtain ⟨⟨hdg, hnx⟩, -⟩ := hl
    exact so_ref hx hb hr hlk0 hK hdg k
  | areturn =>
    obtain ⟨⟨hdg, hnx⟩, -⟩ := hl
    exact so_rea hx hb hr hlk0 hK hdg k
  | return_ =>
    obtain ⟨⟨hdg, hnx⟩, -⟩ := hl
    exact so_rev hx hb hr hlk0 hK hdg k
  | tableswitch df lo hi offs =>
    obtain ⟨⟨len, hdg⟩, hof, htg⟩ := hl
    exact so_sw hx hb hN hdg hof htg k
  | ifCond cnd off =>
    cases cnd with
    | eq =>
      obtain ⟨⟨hdg, hnx⟩, t, rfl, ht⟩ := hl
      subst hnx
      exact so_b1 hN (fun _ _ _ _ _ _ _ k1 k2 => lv_if_eq hx hb hdg ht k1 k2) k
    | lt =>
      obtain ⟨⟨hdg, hnx⟩, t, rfl, ht⟩ := hl
      subst hnx
      exact so_b1 hN (fun _ _ _ _ _ _ _ k1 k2 => lv_if_lt hx hb hdg ht k1 k2) k
    | ge =>
      obtain ⟨⟨hdg, hnx⟩, t, rfl, ht⟩ := hl
      subst hnx
      exact so_b1 hN (fun _ _ _ _ _ _ _ k1 k2 => lv_if_ge hx hb hdg ht k1 k2) k
    | gt =>
      obtain ⟨⟨hdg, hnx⟩, t, rfl, ht⟩ := hl
      subst hnx
      exact so_b1 hN (fun _ _ _ _ _ _ _ k1 k2 => lv_if_gt hx hb hdg ht k1 k2) k
    | le =>
      obtain ⟨⟨hdg, hnx⟩, t, rfl, ht⟩ := hl
      subst hnx
      exact so_b1 hN (fun _ _ _ _ _ _ _ k1 k2 => lv_if_le hx hb hdg ht k1 k2) k
    | ne =>
      obtain ⟨⟨hdg, hnx⟩, t, rfl, ht⟩ := hl
      subst hnx
      exact so_b1 hN (fun _ _ _ _ _ _ _ k1 k2 => lv_if_ne hx hb hdg ht k1 (fun z => k2 (fun q => q z))) k
  | if_icmp cnd off =>
    cases cnd with
    | eq =>
      obtain ⟨⟨hdg, hnx⟩, t, rfl, ht⟩ := hl
      subst hnx
      exact so_b2 hN (fun _ _ _ _ _ _ _ _ k1 k2 => lv_icmp_eq hx hb hdg ht k1 k2) k
    | lt =>
      obtain ⟨⟨hdg, hnx⟩, t, rfl, ht⟩ := hl
      subst hnx
      exact so_b2 hN (fun _ _ _ _ _ _ _ _ k1 k2 => lv_icmp_lt hx hb hdg ht k1 k2) k
    | ge =>
      obtain ⟨⟨hdg, hnx⟩, t, rfl, ht⟩ := hl
      subst hnx
      exact so_b2 hN (fun _ _ _ _ _ _ _ _ k1 k2 => lv_icmp_ge hx hb hdg ht k1 k2) k
    | gt =>
      obtain ⟨⟨hdg, hnx⟩, t, rfl, ht⟩ := hl
      subst hnx
      exact so_b2 hN (fun _ _ _ _ _ _ _ _ k1 k2 => lv_icmp_gt hx hb hdg ht k1 k2) k
    | le =>
      obtain ⟨⟨hdg, hnx⟩, t, rfl, ht⟩ := hl
      subst hnx
      exact so_b2 hN (fun _ _ _ _ _ _ _ _ k1 k2 => lv_icmp_le hx hb hdg ht k1 k2) k
    | ne =>
      obtain ⟨⟨hdg, hnx⟩, t, rfl, ht⟩ := hl
      subst hnx
      exact so_b2 hN (fun _ _ _ _ _ _ _ _ k1 k2 => lv_icmp_ne hx hb hdg ht k1 (fun z => k2 (fun q => q z))) k
  | _ => exact k.1.elim
end
section
theorem xMet_of {l : Launch} {TB : List Cond} {TF : List xNF} {TM : List xNM} {TS : List xTS} {nS : Nat} {lenS : List Nat} {bytS : List (List Int32)} {E : xE} {ad adV : Nat → Nat} {cA : FieldType → ClassId} {D : va_G} {cl : List vw_C} (hT : xTab TB TF TM TS cl E) {n d y : Nat} {av : List Value} {h : xH} {v0 : Option Value} {h0 : xH}
    (ih : ∀ {p : Program} {e : Env} {s : State} {m : MethodId} {args : Array Value} {below : List Frame} {meth : Method} {c : Code} {mc ms : Nat} {ws0 : va_W}, xFx TB TF TM TS nS lenS bytS ad adV cA D cl (E.1 y) (va_A ws0 s.heap.size) p s m args meth c → h0.1.length ≤ xt0 → ∀ f, xr E n d (E.1 y) f (fun v' h2 => v' = v0 ∧ h2 = h0) → xG p l e (xroom d mc ms) s m args below meth c (MQ below (xQc E ad cA D cl ws0 s.heap.size v0 h0) args s mc ms (va_A ws0 s.heap.size)) E ad cA D cl (va_A ws0 s.heap.size) (xa ad ws0) (E.1 y).2.2.1 mc ms h0.1.length (xsz E h0.1) f)
    (k : xr E n d (E.1 y) (0, xent (E.1 y) av, [], h) (fun v' h2 => v' = v0 ∧ h2 = h0)) : xMet l TB TF TM TS nS lenS bytS E ad adV cA D cl d (E.1 y) av h v0 h0 := by
  intro hfl hfin ws avC sz hW hav
  have hlen := xr_len n _ _ _ _ _ k
  refine Met.ofW (cc := (E.1 y).2.1) (maxL := (E.1 y).2.2.1) (ret := (E.1 y).2.2.2.1) (hT.2.2.2.2 y).1 rfl ?_
  intro p e s m args below meth c s₁ B hml hv
  obtain ⟨rfl, hsz, hP, hK, hD0, hEv⟩ := hv
  have hts := atoms_spec (ws := xws TB (E.1 y)) B.pre
  have hown : s.vm.findClass (E.1 y).1.cls = some m.cls := findClass_of_methodNamed B.named
  subst hsz
  have hD := hD0.self (sz := s.heap.size)
  have hS : va_S (va_A ws s.heap.size) s.heap s.heap [] := va_S.rf
  rw [lg_entry_eq]
  have hF : xFx TB TF TM TS nS lenS bytS ad adV cA D cl (E.1 y) (va_A ws s.heap.size) p s m avC.toArray meth c :=
    ⟨B.exec, B.bytes, hml, B.returns, by rw [← (hT.2.2.2.2 y).2]; exact hown, fun w hw => hts w (List.mem_cons_of_mem _ hw), B.notSynchronized, fun hn => (name_of_methodNamed B.named B.method).1.trans hn, hK, hEv⟩
  have hl1 : h.1.length ≤ h0.1.length := hlen.1
  have hl2 : xsz E h.1 ≤ xsz E h0.1 := hlen.2
  have hent : xent (E.1 y) av = xpad (E.1 y).2.2.1 (xflat av) := rfl
  exact ih (p := p) (e := e) (below := below) (mc := h0.1.length - h.1.length) (ms := xsz E h0.1 - xsz E h.1) hF hfin _ k 0 0 ws s.heap [] _ [] (show 0 + h0.1.length ≤ _ + h.1.length by omega) (show 0 + xsz E h0.1 ≤ _ + xsz E h.1 by omega) ⟨⟨hW, fun _ _ z => z⟩, hP, hD, hS, by rw [hent]; exact xls_entry hav hfl, rfl⟩
/-! the walk closed -/
theorem xstepG {l : Launch} {TB : List Cond} {TF : List xNF} {TM : List xNM} {TS : List xTS} {nS : Nat} {lenS : List Nat} {bytS : List (List Int32)} {E : xE} {ad adV : Nat → Nat} {cA : FieldType → ClassId} {D : va_G} {cl : List vw_C} (hT : xTab TB TF TM TS cl E) : ∀ (n : Nat) {p : Program} {e : Env} {s : State} {m : MethodId} {args : Array Value} {below : List Frame} {meth : Method} {c : Code} {d y mc ms : Nat} {v0 : Option Value} {h0 : xH} {ws0 : va_W}, xFx TB TF TM TS nS lenS bytS ad adV cA D cl (E.1 y) (va_A ws0 s.heap.size) p s m args meth c → h0.1.length ≤ xt0 → ∀ f, xr E n d (E.1 y) f (fun v' h2 => v' = v0 ∧ h2 = h0) → xG p l e (xroom d mc ms) s m args below meth c (MQ below (xQc E ad cA D cl ws0 s.heap.size v0 h0) args s mc ms (va_A ws0 s.heap.size)) E ad cA D cl (va_A ws0 s.heap.size) (xa ad ws0) (E.1 y).2.2.1 mc ms h0.1.length (xsz E h0.1) f := by
  intro n
  induction n with
  | zero => intro p e s m args below meth c d y mc ms v0 h0 ws0 _ _ f k; exact k.elim
  | succ n ih =>
    intro p e s m args below meth c d y mc ms v0 h0 ws0 hF hfin f k
    replace k : xwo E (xr E n) (xr E n d (E.1 y)) d (fun v' h2 => v' = v0 ∧ h2 = h0) (xstep E (E.1 y) f) := k
    obtain ⟨pc, ls, st, h⟩ := f
    unfold xstep at k
    split at k
    · exact k.1.elim
    · rename_i i nx tg v hi
      refine xone hT hF hfin (fun d M f v h' k => xr_len n d M f v h' k) (fun d M f P k => xr_det n d M f P k) (fun d9 y9 av h9 v9 h' k9 => ?_) (fun f k => xr_len n d (E.1 y) f v0 h0 k) (fun f k => ih hF hfin f k) i pc nx tg v ls st h (hT.2.2.2.1 y pc i nx tg v hi) k
      exact xMet_of hT (fun hF hfin f k => ih hF hfin f k) k9
end
section
/-! how the tables of the machine on paper are checked -/
def xtgtb (pc : Nat) : List Int → List Nat → Bool
  | [], [] => true
  | o :: os, t :: ts => decide ((pc : Int) + o = (t : Int)) && xtgtb pc os ts
  | _, _ => false
theorem xtgtb_ok {pc : Nat} : ∀ {os : List Int} {ts : List Nat}, xtgtb pc os ts = true → xtgt pc os ts
  | [], [], _ => trivial
  | [], _ :: _, h => by cases h
  | _ :: _, [], h => by cases h
  | o :: os, t :: ts, h => by
    unfold xtgtb at h
    rw [Bool.and_eq_true] at h
    exact ⟨of_decide_eq_true h.1, xtgtb_ok h.2⟩
def xtb1 (pc : Nat) (off : Int) (tg : List Nat) : Bool := match tg with
  | [t] => decide ((pc : Int) + off = (t : Int))
  | _ => false
theorem xtb1_ok {pc : Nat} {off : Int} {tg : List Nat} (h : xtb1 pc off tg = true) : ∃ t, tg = [t] ∧ (pc : Int) + off = (t : Int) := by
  unfold xtb1 at h
  split at h
  · exact ⟨_, rfl, of_decide_eq_true h⟩
  · cases h
/-- what is computed: the decoding, the next pc, constants, targets -/
def xcv (pc : Nat) (i : Instr) (tg : List Nat) (v : Value) : Bool := match i with
  | .iconst n => decide (v = .int (Int32.ofInt n))
  | .bipush n => decide (v = .int (Int8.ofInt n).toInt32)
  | .sipush n => decide (v = .int (Int16.ofInt n).toInt32)
  | .lconst n => decide (v = .long (Int64.ofNat (n : Nat)))
  | .fconst n => decide (v = .float (if n = 0 then FP.fconst0 else if n = 1 then FP.fconst1 else FP.fconst2))
  | .iinc _ n => decide (v = .int (Int32.ofInt n))
  | .ifCond _ off => xtb1 pc off tg
  | .if_icmp _ off => xtb1 pc off tg
  | .ifnull off => xtb1 pc off tg
  | .ifnonnull off => xtb1 pc off tg
  | .goto off => xtb1 pc off tg
  | _ => true
def xdb (cc : ByteArray) (pc : Nat) (q : xN) : Bool := match q.1 with
  | .tableswitch df lo hi offs => (match decode cc pc with
    | .ok (j, _) => decide (j = .tableswitch df lo hi offs)
    | _ => false) && decide ((offs.toList.length : Int) = hi - lo + 1) && xtgtb pc (df :: offs.toList) q.2.2.1
  | i => decide (decode cc pc = .ok (i, xlen i)) && Nat.beq q.2.1 (pc + xlen i) && xcv pc i q.2.2.1 q.2.2.2
/-- what is to be shown: what the instruction is linked to -/
def xlL (TB : List Cond) (TF : List xNF) (TM : List xNM) (TS : List xTS) (cl : List vw_C) (E : xE) (name own : String) (q : xN) : Prop := match q.1 with
  | .ldc idx => (∃ x, q.2.2.2 = .int x ∧ Cond.constant own idx x ∈ TB) ∨ (∃ x, q.2.2.2 = .float x ∧ Cond.constantFloat own idx x ∈ TB) ∨ ∃ tx j, q.2.2.2 = .ref (xt0 + j) ∧ (own, idx, tx, j) ∈ TS
  | .ldc_w idx => ∃ x, q.2.2.2 = .int x ∧ Cond.constant own idx x ∈ TB
  | .ldc2_w idx => ∃ x, q.2.2.2 = .long x ∧ Cond.constantLong own idx x ∈ TB
  | .getfield idx => ∃ ci k r, q.2.2.1 = [ci, k] ∧ cl[ci]? = some r ∧ k < r.2.2 ∧ xLF TB TF own idx (r.2.1 k)
  | .putfield idx => ∃ ci k r, q.2.2.1 = [ci, k] ∧ cl[ci]? = some r ∧ k < r.2.2 ∧ xLF TB TF own idx (r.2.1 k) ∧ ((r.2.1 k).2.2.2 = false ∨ (name = "<init>" ∧ (r.2.1 k).1 = own ∧ Cond.fieldLink own idx (r.2.1 k).1 (r.2.1 k).2.1 (r.2.1 k).2.2.1 ∈ TB))
  | .new idx => ∃ ci r, q.2.2.1 = [ci] ∧ cl[ci]? = some r ∧ Cond.classLink own idx r.1 ∈ TB
  | .multianewarray idx k => k = 2 ∧ Cond.classLink own idx "[[F" ∈ TB
  | .invokestatic idx => (∃ y n, q.2.2.1 = [y, n] ∧ xMok TB (E.1 y) n ∧ Cond.methodLink own idx (E.1 y).1 ∈ TB ∧ Cond.static (E.1 y).1 ∈ TB) ∨ (q.2.2.1 = [2] ∧ Cond.methodLink own idx Lib.Math.max.name ∈ TB ∧ Cond.static Lib.Math.max.name ∈ TB ∧ Cond.initialized "java/lang/Math" ∈ TB ∧ Cond.code Lib.Math.max.name Lib.Math.max.code 2 (some .int) ∈ TB) ∨ (q.2.2.1 = [3] ∧ Cond.methodLink own idx Lib.Math.min.name ∈ TB ∧ Cond.static Lib.Math.min.name ∈ TB ∧ Cond.initialized "java/lang/Math" ∈ TB ∧ Cond.code Lib.Math.min.name Lib.Math.min.code 2 (some .int) ∈ TB)
  | .invokevirtual idx => (∃ y n ci r, q.2.2.1 = [y, n, ci] ∧ cl[ci]? = some r ∧ xMok TB (E.1 y) n ∧ (E.1 y).1.cls = r.1 ∧ Cond.methodLink own idx (E.1 y).1 ∈ TB ∧ Cond.instanceMethod (E.1 y).1 ∈ TB ∧ Cond.selects r.1 (E.1 y).1 (E.1 y).1 ∈ TB) ∨ (q.2.2.1 = [0] ∧ xTx TB own idx 0) ∨ (q.2.2.1 = [1] ∧ xTx TB own idx 1)
  | .invokespecial idx => (∃ y n ci, q.2.2.1 = [y, n, ci] ∧ xMok TB (E.1 y) n ∧ (E.1 y).2.2.2.1 = none ∧ (E.1 y).1.name = "<init>" ∧ (Cond.methodLink own idx (E.1 y).1 ∈ TB ∨ ∃ host, (own, idx, (E.1 y).1, host) ∈ TM) ∧ Cond.instanceMethod (E.1 y).1 ∈ TB) ∨ (q.2.2.1 = [] ∧ Cond.methodLink own idx Lib.objectInit ∈ TB ∧ Cond.instanceMethod Lib.objectInit ∈ TB ∧ Cond.code Lib.objectInit ⟨#[0xb1]⟩ 1 none ∈ TB)
  | _ => True
theorem xlk_of {TB : List Cond} {TF : List xNF} {TM : List xNM} {TS : List xTS} {cl : List vw_C} {E : xE} {M : xM} {pc : Nat} {i : Instr} {nx : Nat} {tg : List Nat} {v : Value} (hd : xdb M.2.1 pc (i, nx, tg, v) = true) (hl : xlL TB TF TM TS cl E M.1.name M.2.2.2.2.1 (i, nx, tg, v)) : xlk TB TF TM TS cl E M pc i nx tg v := by
  cases i with
  | tableswitch df lo hi offs =>
    have hd : ((match decode M.2.1 pc with
      | .ok (j, _) => decide (j = .tableswitch df lo hi offs)
      | _ => false) && decide ((offs.toList.length : Int) = hi - lo + 1) && xtgtb pc (df :: offs.toList) tg) = true := hd
    rw [Bool.and_eq_true, Bool.and_eq_true] at hd
    obtain ⟨⟨h1, h2⟩, h3⟩ := hd
    refine ⟨?_, of_decide_eq_true h2, xtgtb_ok h3⟩
    split at h1
    · rename_i j len hj
      rw [of_decide_eq_true h1] at hj
      exact ⟨len, hj⟩
    · cases h1
  | iconst n =>
    have hd : (decide (decode M.2.1 pc = .ok (.iconst n, xlen (.iconst n))) && Nat.beq nx (pc + xlen (.iconst n)) && xcv pc (.iconst n) tg v) = true := hd
    rw [Bool.and_eq_true, Bool.and_eq_true] at hd
    obtain ⟨⟨h1, h2⟩, h3⟩ := hd
    exact ⟨⟨of_decide_eq_true h1, Nat.eq_of_beq_eq_true h2⟩, of_decide_eq_true h3⟩
  | bipush n =>
    have hd : (decide (decode M.2.1 pc = .ok (.bipush n, xlen (.bipush n))) && Nat.beq nx (pc + xlen (.bipush n)) && xcv pc (.bipush n) tg v) = true := hd
    rw [Bool.and_eq_true, Bool.and_eq_true] at hd
    obtain ⟨⟨h1, h2⟩, h3⟩ := hd
    exact ⟨⟨of_decide_eq_true h1, Nat.eq_of_beq_eq_true h2⟩, of_decide_eq_true h3⟩
  | sipush n =>
    have hd : (decide (decode M.2.1 pc = .ok (.sipush n, xlen (.sipush n))) && Nat.beq nx (pc + xlen (.sipush n)) && xcv pc (.sipush n) tg v) = true := hd
    rw [Bool.and_eq_true, Bool.and_eq_true] at hd
    obtain ⟨⟨h1, h2⟩, h3⟩ := hd
    exact ⟨⟨of_decide_eq_true h1, Nat.eq_of_beq_eq_true h2⟩, of_decide_eq_true h3⟩
  | lconst n =>
    have hd : (decide (decode M.2.1 pc = .ok (.lconst n, xlen (.lconst n))) && Nat.beq nx (pc + xlen (.lconst n)) && xcv pc (.lconst n) tg v) = true := hd
    rw [Bool.and_eq_true, Bool.and_eq_true] at hd
    obtain ⟨⟨h1, h2⟩, h3⟩ := hd
    exact ⟨⟨of_decide_eq_true h1, Nat.eq_of_beq_eq_true h2⟩, of_decide_eq_true h3⟩
  | fconst n =>
    have hd : (decide (decode M.2.1 pc = .ok (.fconst n, xlen (.fconst n))) && Nat.beq nx (pc + xlen (.fconst n)) && xcv pc (.fconst n) tg v) = true := hd
    rw [Bool.and_eq_true, Bool.and_eq_true] at hd
    obtain ⟨⟨h1, h2⟩, h3⟩ := hd
    exact ⟨⟨of_decide_eq_true h1, Nat.eq_of_beq_eq_true h2⟩, of_decide_eq_true h3⟩
  | iinc k n =>
    have hd : (decide (decode M.2.1 pc = .ok (.iinc k n, xlen (.iinc k n))) && Nat.beq nx (pc + xlen (.iinc k n)) && xcv pc (.iinc k n) tg v) = true := hd
    rw [Bool.and_eq_true, Bool.and_eq_true] at hd
    obtain ⟨⟨h1, h2⟩, h3⟩ := hd
    exact ⟨⟨of_decide_eq_true h1, Nat.eq_of_beq_eq_true h2⟩, of_decide_eq_true h3⟩
  | ifCond cnd off =>
    have hd : (decide (decode M.2.1 pc = .ok (.ifCond cnd off, xlen (.ifCond cnd off))) && Nat.beq nx (pc + xlen (.ifCond cnd off)) && xcv pc (.ifCond cnd off) tg v) = true := hd
    rw [Bool.and_eq_true, Bool.and_eq_true] at hd
    obtain ⟨⟨h1, h2⟩, h3⟩ := hd
    exact ⟨⟨of_decide_eq_true h1, Nat.eq_of_beq_eq_true h2⟩, xtb1_ok h3⟩
  | if_icmp cnd off =>
    have hd : (decide (decode M.2.1 pc = .ok (.if_icmp cnd off, xlen (.if_icmp cnd off))) && Nat.beq nx (pc + xlen (.if_icmp cnd off)) && xcv pc (.if_icmp cnd off) tg v) = true := hd
    rw [Bool.and_eq_true, Bool.and_eq_true] at hd
    obtain ⟨⟨h1, h2⟩, h3⟩ := hd
    exact ⟨⟨of_decide_eq_true h1, Nat.eq_of_beq_eq_true h2⟩, xtb1_ok h3⟩
  | ifnull off =>
    have hd : (decide (decode M.2.1 pc = .ok (.ifnull off, xlen (.ifnull off))) && Nat.beq nx (pc + xlen (.ifnull off)) && xcv pc (.ifnull off) tg v) = true := hd
    rw [Bool.and_eq_true, Bool.and_eq_true] at hd
    obtain ⟨⟨h1, h2⟩, h3⟩ := hd
    exact ⟨⟨of_decide_eq_true h1, Nat.eq_of_beq_eq_true h2⟩, xtb1_ok h3⟩
  | ifnonnull off =>
    have hd : (decide (decode M.2.1 pc = .ok (.ifnonnull off, xlen (.ifnonnull off))) && Nat.beq nx (pc + xlen (.ifnonnull off)) && xcv pc (.ifnonnull off) tg v) = true := hd
    rw [Bool.and_eq_true, Bool.and_eq_true] at hd
    obtain ⟨⟨h1, h2⟩, h3⟩ := hd
    exact ⟨⟨of_decide_eq_true h1, Nat.eq_of_beq_eq_true h2⟩, xtb1_ok h3⟩
  | goto off =>
    have hd : (decide (decode M.2.1 pc = .ok (.goto off, xlen (.goto off))) && Nat.beq nx (pc + xlen (.goto off)) && xcv pc (.goto off) tg v) = true := hd
    rw [Bool.and_eq_true, Bool.and_eq_true] at hd
    obtain ⟨⟨h1, h2⟩, h3⟩ := hd
    exact ⟨⟨of_decide_eq_true h1, Nat.eq_of_beq_eq_true h2⟩, xtb1_ok h3⟩
  | ldc idx =>
    have hd : (decide (decode M.2.1 pc = .ok (.ldc idx, xlen (.ldc idx))) && Nat.beq nx (pc + xlen (.ldc idx)) && xcv pc (.ldc idx) tg v) = true := hd
    rw [Bool.and_eq_true, Bool.and_eq_true] at hd
    obtain ⟨⟨h1, h2⟩, h3⟩ := hd
    exact ⟨⟨of_decide_eq_true h1, Nat.eq_of_beq_eq_true h2⟩, hl⟩
  | ldc_w idx =>
    have hd : (decide (decode M.2.1 pc = .ok (.ldc_w idx, xlen (.ldc_w idx))) && Nat.beq nx (pc + xlen (.ldc_w idx)) && xcv pc (.ldc_w idx) tg v) = true := hd
    rw [Bool.and_eq_true, Bool.and_eq_true] at hd
    obtain ⟨⟨h1, h2⟩, h3⟩ := hd
    exact ⟨⟨of_decide_eq_true h1, Nat.eq_of_beq_eq_true h2⟩, hl⟩
  | ldc2_w idx =>
    have hd : (decide (decode M.2.1 pc = .ok (.ldc2_w idx, xlen (.ldc2_w idx))) && Nat.beq nx (pc + xlen (.ldc2_w idx)) && xcv pc (.ldc2_w idx) tg v) = true := hd
    rw [Bool.and_eq_true, Bool.and_eq_true] at hd
    obtain ⟨⟨h1, h2⟩, h3⟩ := hd
    exact ⟨⟨of_decide_eq_true h1, Nat.eq_of_beq_eq_true h2⟩, hl⟩
  | getfield idx =>
    have hd : (decide (decode M.2.1 pc = .ok (.getfield idx, xlen (.getfield idx))) && Nat.beq nx (pc + xlen (.getfield idx)) && xcv pc (.getfield idx) tg v) = true := hd
    rw [Bool.and_eq_true, Bool.and_eq_true] at hd
    obtain ⟨⟨h1, h2⟩, h3⟩ := hd
    exact ⟨⟨of_decide_eq_true h1, Nat.eq_of_beq_eq_true h2⟩, hl⟩
  | putfield idx =>
    have hd : (decide (decode M.2.1 pc = .ok (.putfield idx, xlen (.putfield idx))) && Nat.beq nx (pc + xlen (.putfield idx)) && xcv pc (.putfield idx) tg v) = true := hd
    rw [Bool.and_eq_true, Bool.and_eq_true] at hd
    obtain ⟨⟨h1, h2⟩, h3⟩ := hd
    exact ⟨⟨of_decide_eq_true h1, Nat.eq_of_beq_eq_true h2⟩, hl⟩
  | new idx =>
    have hd : (decide (decode M.2.1 pc = .ok (.new idx, xlen (.new idx))) && Nat.beq nx (pc + xlen (.new idx)) && xcv pc (.new idx) tg v) = true := hd
    rw [Bool.and_eq_true, Bool.and_eq_true] at hd
    obtain ⟨⟨h1, h2⟩, h3⟩ := hd
    exact ⟨⟨of_decide_eq_true h1, Nat.eq_of_beq_eq_true h2⟩, hl⟩
  | multianewarray idx k =>
    have hd : (decide (decode M.2.1 pc = .ok (.multianewarray idx k, xlen (.multianewarray idx k))) && Nat.beq nx (pc + xlen (.multianewarray idx k)) && xcv pc (.multianewarray idx k) tg v) = true := hd
    rw [Bool.and_eq_true, Bool.and_eq_true] at hd
    obtain ⟨⟨h1, h2⟩, h3⟩ := hd
    exact ⟨⟨of_decide_eq_true h1, Nat.eq_of_beq_eq_true h2⟩, hl⟩
  | invokestatic idx =>
    have hd : (decide (decode M.2.1 pc = .ok (.invokestatic idx, xlen (.invokestatic idx))) && Nat.beq nx (pc + xlen (.invokestatic idx)) && xcv pc (.invokestatic idx) tg v) = true := hd
    rw [Bool.and_eq_true, Bool.and_eq_true] at hd
    obtain ⟨⟨h1, h2⟩, h3⟩ := hd
    exact ⟨⟨of_decide_eq_true h1, Nat.eq_of_beq_eq_true h2⟩, hl⟩
  | invokevirtual idx =>
    have hd : (decide (decode M.2.1 pc = .ok (.invokevirtual idx, xlen (.invokevirtual idx))) && Nat.beq nx (pc + xlen (.invokevirtual idx)) && xcv pc (.invokevirtual idx) tg v) = true := hd
    rw [Bool.and_eq_true, Bool.and_eq_true] at hd
    obtain ⟨⟨h1, h2⟩, h3⟩ := hd
    exact ⟨⟨of_decide_eq_true h1, Nat.eq_of_beq_eq_true h2⟩, hl⟩
  | invokespecial idx =>
    have hd : (decide (decode M.2.1 pc = .ok (.invokespecial idx, xlen (.invokespecial idx))) && Nat.beq nx (pc + xlen (.invokespecial idx)) && xcv pc (.invokespecial idx) tg v) = true := hd
    rw [Bool.and_eq_true, Bool.and_eq_true] at hd
    obtain ⟨⟨h1, h2⟩, h3⟩ := hd
    exact ⟨⟨of_decide_eq_true h1, Nat.eq_of_beq_eq_true h2⟩, hl⟩
  | _ =>
    have hd : (decide (decode M.2.1 pc = .ok (_, xlen _)) && Nat.beq nx (pc + xlen _) && xcv pc _ tg v) = true := hd
    rw [Bool.and_eq_true, Bool.and_eq_true] at hd
    obtain ⟨⟨h1, h2⟩, h3⟩ := hd
    exact ⟨⟨of_decide_eq_true h1, Nat.eq_of_beq_eq_true h2⟩, trivial⟩
/-! a tree of instructions -/
theorem xnode {P : Nat → xN → Prop} {k : Nat} {lo hi : Nat → Option xN} (a : ∀ pc q, lo pc = some q → P pc q) (b : ∀ pc q, hi pc = some q → P pc q) : ∀ pc q, (bif Nat.ble k pc then hi pc else lo pc) = some q → P pc q := by
  intro pc q h
  cases hb : Nat.ble k pc with
  | true => rw [hb] at h; exact b pc q h
  | false => rw [hb] at h; exact a pc q h
theorem xleaf {P : Nat → xN → Prop} {k : Nat} {e : xN} (a : P k e) : ∀ pc q, (bif Nat.beq pc k then some e else none) = some q → P pc q := by
  intro pc q h
  cases hb : Nat.beq pc k with
  | true =>
    rw [hb] at h
    have h9 := Nat.eq_of_beq_eq_true hb
    subst h9
    cases h
    exact a
  | false => rw [hb] at h; cases h
theorem xnone {P : Nat → xN → Prop} : ∀ (pc : Nat) (q : xN), (none : Option xN) = some q → P pc q := fun _ _ h => by cases h
/-- all instructions of a method are as the bytes have them -/
def xall_b (cc : ByteArray) (n : Nat) (ins : Nat → Option xN) : Bool := (List.range n).all fun pc => match ins pc with
  | none => true
  | some q => xdb cc pc q
theorem xall_ok {cc : ByteArray} {n : Nat} {ins : Nat → Option xN} (h : xall_b cc n ins = true) (hn : ∀ pc q, ins pc = some q → pc < n) : ∀ pc q, ins pc = some q → xdb cc pc q = true := by
  intro pc q hq
  have h1 := List.all_eq_true.mp h pc (List.mem_range.mpr (hn pc q hq))
  rw [hq] at h1
  exact h1
theorem xtop {n : Nat} {t : Nat → Option xN} : ∀ pc q, (bif Nat.ble n pc then none else t pc) = some q → pc < n := by
  intro pc q h
  cases hb : Nat.ble n pc with
  | true => rw [hb] at h; cases h
  | false =>
    rcases Nat.lt_or_ge pc n with z | z
    · exact z
    · rw [Nat.ble_eq_true_of_le z] at hb; cases hb
end
section
/-! the words of the tables by their places -/
def xTB : List Cond := lw_tbl.filter goodWord
def xq_0 : List Cond := [(Jvm.Cond.selects "TextEngine$Reader" ({ cls := "TextEngine$Reader", name := "readHead", desc := "()Z" } : Jvm.MethodName) ({ cls := "TextEngine$Reader", name := "readHead", desc := "()Z" } : Jvm.MethodName)), (Jvm.Cond.selects "TextEngine$Reader" ({ cls := "TextEngine$Reader", name := "readNumber", desc := "(I)J" } : Jvm.MethodName) ({ cls := "TextEngine$Reader", name := "readNumber", desc := "(I)J" } : Jvm.MethodName)), (Jvm.Cond.selects "TextEngine$Reader" ({ cls := "TextEngine$Reader", name := "fail", desc := "(II)Z" } : Jvm.MethodName) ({ cls := "TextEngine$Reader", name := "fail", desc := "(II)Z" } : Jvm.MethodName)), (Jvm.Cond.selects "TextEngine$Reader" ({ cls := "TextEngine$Reader", name := "readSmall", desc := "(III)I" } : Jvm.MethodName) ({ cls := "TextEngine$Reader", name := "readSmall", desc := "(III)I" } : Jvm.MethodName)), (Jvm.Cond.selects "TextEngine$Reader" ({ cls := "TextEngine$Reader", name := "readPairs", desc := "()Z" } : Jvm.MethodName) ({ cls := "TextEngine$Reader", name := "readPairs", desc := "()Z" } : Jvm.MethodName)), (Jvm.Cond.selects "TextEngine$Reader" ({ cls := "TextEngine$Reader", name := "readName", desc := "([II)Z" } : Jvm.MethodName) ({ cls := "TextEngine$Reader", name := "readName", desc := "([II)Z" } : Jvm.MethodName)), (Jvm.Cond.selects "TextEngine$Reader" ({ cls := "TextEngine$Reader", name := "readString", desc := "(I)Z" } : Jvm.MethodName) ({ cls := "TextEngine$Reader", name := "readString", desc := "(I)Z" } : Jvm.MethodName)), (Jvm.Cond.selects "TextEngine$Reader" ({ cls := "TextEngine$Reader", name := "readValue", desc := "(II)Z" } : Jvm.MethodName) ({ cls := "TextEngine$Reader", name := "readValue", desc := "(II)Z" } : Jvm.MethodName)), (Jvm.Cond.selects "TextEngine$Reader" ({ cls := "TextEngine$Reader", name := "readInfos", desc := "()V" } : Jvm.MethodName) ({ cls := "TextEngine$Reader", name := "readInfos", desc := "()V" } : Jvm.MethodName)), (Jvm.Cond.selects "TextEngine$Reader" ({ cls := "TextEngine$Reader", name := "readSides", desc := "(I)Z" } : Jvm.MethodName) ({ cls := "TextEngine$Reader", name := "readSides", desc := "(I)Z" } : Jvm.MethodName)), (Jvm.Cond.selects "TextEngine$Maker" ({ cls := "TextEngine$Maker", name := "findKeys", desc := "()Z" } : Jvm.MethodName) ({ cls := "TextEngine$Maker", name := "findKeys", desc := "()Z" } : Jvm.MethodName)), (Jvm.Cond.selects "TextEngine$Maker" ({ cls := "TextEngine$Maker", name := "findKey", desc := "(ILjava/lang/String;I)Z" } : Jvm.MethodName) ({ cls := "TextEngine$Maker", name := "findKey", desc := "(ILjava/lang/String;I)Z" } : Jvm.MethodName)), (Jvm.Cond.selects "TextEngine$Maker" ({ cls := "TextEngine$Maker", name := "isArrayOf", desc := "(II)Z" } : Jvm.MethodName) ({ cls := "TextEngine$Maker", name := "isArrayOf", desc := "(II)Z" } : Jvm.MethodName)), (Jvm.Cond.selects "TextEngine$Maker" ({ cls := "TextEngine$Maker", name := "isArrayOfNumberArrays", desc := "(I)Z" } : Jvm.MethodName) ({ cls := "TextEngine$Maker", name := "isArrayOfNumberArrays", desc := "(I)Z" } : Jvm.MethodName)), (Jvm.Cond.selects "TextEngine$Maker" ({ cls := "TextEngine$Maker", name := "takeNumbers", desc := "(LTextEngine$Model;)Z" } : Jvm.MethodName) ({ cls := "TextEngine$Maker", name := "takeNumbers", desc := "(LTextEngine$Model;)Z" } : Jvm.MethodName)), (Jvm.Cond.selects "TextEngine$Maker" ({ cls := "TextEngine$Maker", name := "takeNumber", desc := "(LTextEngine$Model;III)Z" } : Jvm.MethodName) ({ cls := "TextEngine$Maker", name := "takeNumber", desc := "(LTextEngine$Model;III)Z" } : Jvm.MethodName)), (Jvm.Cond.selects "TextEngine$Maker" ({ cls := "TextEngine$Maker", name := "takeHeads", desc := "(LTextEngine$Model;)Z" } : Jvm.MethodName) ({ cls := "TextEngine$Maker", name := "takeHeads", desc := "(LTextEngine$Model;)Z" } : Jvm.MethodName)), (Jvm.Cond.selects "TextEngine$Maker" ({ cls := "TextEngine$Maker", name := "takeAlign", desc := "(LTextEngine$Model;)Z" } : Jvm.MethodName) ({ cls := "TextEngine$Maker", name := "takeAlign", desc := "(LTextEngine$Model;)Z" } : Jvm.MethodName)), (Jvm.Cond.selects "TextEngine$Maker" ({ cls := "TextEngine$Maker", name := "takeReals", desc := "(LTextEngine$Model;)Z" } : Jvm.MethodName) ({ cls := "TextEngine$Maker", name := "takeReals", desc := "(LTextEngine$Model;)Z" } : Jvm.MethodName)), (Jvm.Cond.selects "TextEngine$Maker" ({ cls := "TextEngine$Maker", name := "takeWords", desc := "(LTextEngine$Model;)Z" } : Jvm.MethodName) ({ cls := "TextEngine$Maker", name := "takeWords", desc := "(LTextEngine$Model;)Z" } : Jvm.MethodName)), (Jvm.Cond.selects "TextEngine$Maker" ({ cls := "TextEngine$Maker", name := "takeTokens", desc := "(LTextEngine$Model;)Z" } : Jvm.MethodName) ({ cls := "TextEngine$Maker", name := "takeTokens", desc := "(LTextEngine$Model;)Z" } : Jvm.MethodName)), (Jvm.Cond.selects "TextEngine$Maker" ({ cls := "TextEngine$Maker", name := "takeMerges", desc := "(LTextEngine$Model;)Z" } : Jvm.MethodName) ({ cls := "TextEngine$Maker", name := "takeMerges", desc := "(LTextEngine$Model;)Z" } : Jvm.MethodName)), (Jvm.Cond.selects "TextEngine$Words" ({ cls := "TextEngine$Words", name := "join", desc := "(II)I" } : Jvm.MethodName) ({ cls := "TextEngine$Words", name := "join", desc := "(II)I" } : Jvm.MethodName)), (Jvm.Cond.selects "TextEngine$Words" ({ cls := "TextEngine$Words", name := "lengthOf", desc := "(I)I" } : Jvm.MethodName) ({ cls := "TextEngine$Words", name := "lengthOf", desc := "(I)I" } : Jvm.MethodName)), (Jvm.Cond.selects "TextEngine$Words" ({ cls := "TextEngine$Words", name := "octetsOf", desc := "(I)J" } : Jvm.MethodName) ({ cls := "TextEngine$Words", name := "octetsOf", desc := "(I)J" } : Jvm.MethodName)), (Jvm.Cond.selects "TextEngine$Maker" ({ cls := "TextEngine$Maker", name := "takeShapes", desc := "(LTextEngine$Model;)Z" } : Jvm.MethodName) ({ cls := "TextEngine$Maker", name := "takeShapes", desc := "(LTextEngine$Model;)Z" } : Jvm.MethodName)), (Jvm.Cond.selects "TextEngine$Maker" ({ cls := "TextEngine$Maker", name := "dataBegin", desc := "(I)I" } : Jvm.MethodName) ({ cls := "TextEngine$Maker", name := "dataBegin", desc := "(I)I" } : Jvm.MethodName)), (Jvm.Cond.selects "TextEngine$Maker" ({ cls := "TextEngine$Maker", name := "areWellPlaced", desc := "(II)Z" } : Jvm.MethodName) ({ cls := "TextEngine$Maker", name := "areWellPlaced", desc := "(II)Z" } : Jvm.MethodName)), (Jvm.Cond.selects "TextEngine$Maker" ({ cls := "TextEngine$Maker", name := "overlapsEarlier", desc := "(I)Z" } : Jvm.MethodName) ({ cls := "TextEngine$Maker", name := "overlapsEarlier", desc := "(I)Z" } : Jvm.MethodName)), (Jvm.Cond.selects "TextEngine$Maker" ({ cls := "TextEngine$Maker", name := "takeWeights", desc := "(LTextEngine$Tensors;I)Z" } : Jvm.MethodName) ({ cls := "TextEngine$Maker", name := "takeWeights", desc := "(LTextEngine$Tensors;I)Z" } : Jvm.MethodName)), (Jvm.Cond.selects "TextEngine$Maker" ({ cls := "TextEngine$Maker", name := "unpack", desc := "(LTextEngine$Tensors;II)Z" } : Jvm.MethodName) ({ cls := "TextEngine$Maker", name := "unpack", desc := "(LTextEngine$Tensors;II)Z" } : Jvm.MethodName)), (Jvm.Cond.selects "TextEngine$Maker" ({ cls := "TextEngine$Maker", name := "unpackHalves", desc := "([FIII)Z" } : Jvm.MethodName) ({ cls := "TextEngine$Maker", name := "unpackHalves", desc := "([FIII)Z" } : Jvm.MethodName))]
def xq_1 : List Cond := [(Jvm.Cond.selects "TextEngine$Maker" ({ cls := "TextEngine$Maker", name := "unpackFours", desc := "([FIFI)V" } : Jvm.MethodName) ({ cls := "TextEngine$Maker", name := "unpackFours", desc := "([FIFI)V" } : Jvm.MethodName)), (Jvm.Cond.selects "TextEngine$Maker" ({ cls := "TextEngine$Maker", name := "unpackEights", desc := "([FIFI)V" } : Jvm.MethodName) ({ cls := "TextEngine$Maker", name := "unpackEights", desc := "([FIFI)V" } : Jvm.MethodName)), (Jvm.Cond.selects "TextEngine" ({ cls := "TextEngine", name := "takeSpare", desc := "()V" } : Jvm.MethodName) ({ cls := "TextEngine", name := "takeSpare", desc := "()V" } : Jvm.MethodName)), (Jvm.Cond.selects "TextEngine" ({ cls := "TextEngine", name := "forget", desc := "()V" } : Jvm.MethodName) ({ cls := "TextEngine", name := "forget", desc := "()V" } : Jvm.MethodName)), (Jvm.Cond.selects "TextEngine$Encoder" ({ cls := "TextEngine$Encoder", name := "mergeOnce", desc := "(LTextEngine$Words;)Z" } : Jvm.MethodName) ({ cls := "TextEngine$Encoder", name := "mergeOnce", desc := "(LTextEngine$Words;)Z" } : Jvm.MethodName)), (Jvm.Cond.selects "TextEngine$Encoder" ({ cls := "TextEngine$Encoder", name := "join", desc := "(II)V" } : Jvm.MethodName) ({ cls := "TextEngine$Encoder", name := "join", desc := "(II)V" } : Jvm.MethodName)), (Jvm.Cond.selects "TextEngine$Network" ({ cls := "TextEngine$Network", name := "attend", desc := "(LTextEngine$Model;II)V" } : Jvm.MethodName) ({ cls := "TextEngine$Network", name := "attend", desc := "(LTextEngine$Model;II)V" } : Jvm.MethodName)), (Jvm.Cond.selects "TextEngine$Network" ({ cls := "TextEngine$Network", name := "normalise", desc := "(LTextEngine$Model;I)V" } : Jvm.MethodName) ({ cls := "TextEngine$Network", name := "normalise", desc := "(LTextEngine$Model;I)V" } : Jvm.MethodName)), (Jvm.Cond.selects "TextEngine$Network" ({ cls := "TextEngine$Network", name := "turn", desc := "(LTextEngine$Model;[FII)V" } : Jvm.MethodName) ({ cls := "TextEngine$Network", name := "turn", desc := "(LTextEngine$Model;[FII)V" } : Jvm.MethodName)), (Jvm.Cond.selects "TextEngine$Network" ({ cls := "TextEngine$Network", name := "weighHead", desc := "(LTextEngine$Model;[FII)F" } : Jvm.MethodName) ({ cls := "TextEngine$Network", name := "weighHead", desc := "(LTextEngine$Model;[FII)F" } : Jvm.MethodName)), (Jvm.Cond.selects "TextEngine$Network" ({ cls := "TextEngine$Network", name := "earliest", desc := "(LTextEngine$Model;)I" } : Jvm.MethodName) ({ cls := "TextEngine$Network", name := "earliest", desc := "(LTextEngine$Model;)I" } : Jvm.MethodName)), (Jvm.Cond.selects "TextEngine$Network" ({ cls := "TextEngine$Network", name := "mixHead", desc := "(LTextEngine$Model;[FIIF)V" } : Jvm.MethodName) ({ cls := "TextEngine$Network", name := "mixHead", desc := "(LTextEngine$Model;[FIIF)V" } : Jvm.MethodName)), (Jvm.Cond.selects "TextEngine$Network" ({ cls := "TextEngine$Network", name := "feed", desc := "(LTextEngine$Model;I)V" } : Jvm.MethodName) ({ cls := "TextEngine$Network", name := "feed", desc := "(LTextEngine$Model;I)V" } : Jvm.MethodName)), (Jvm.Cond.selects "TextEngine" ({ cls := "TextEngine", name := "hasNoLogits", desc := "()Z" } : Jvm.MethodName) ({ cls := "TextEngine", name := "hasNoLogits", desc := "()Z" } : Jvm.MethodName)), (Jvm.Cond.selects "TextEngine$Chooser" ({ cls := "TextEngine$Chooser", name := "addUp", desc := "([FFI)V" } : Jvm.MethodName) ({ cls := "TextEngine$Chooser", name := "addUp", desc := "([FFI)V" } : Jvm.MethodName)), (Jvm.Cond.selects "TextEngine$Chooser" ({ cls := "TextEngine$Chooser", name := "firstAtLeast", desc := "(FI)I" } : Jvm.MethodName) ({ cls := "TextEngine$Chooser", name := "firstAtLeast", desc := "(FI)I" } : Jvm.MethodName)), (Jvm.Cond.selects "TextEngine$Chooser" ({ cls := "TextEngine$Chooser", name := "moveOn", desc := "()V" } : Jvm.MethodName) ({ cls := "TextEngine$Chooser", name := "moveOn", desc := "()V" } : Jvm.MethodName)), (Jvm.Cond.selects "TextEngine" ({ cls := "TextEngine", name := "sayOne", desc := "()Z" } : Jvm.MethodName) ({ cls := "TextEngine", name := "sayOne", desc := "()Z" } : Jvm.MethodName)), (Jvm.Cond.selects "TextEngineModel" ({ cls := "TextEngineModel", name := "parse", desc := "()V" } : Jvm.MethodName) ({ cls := "TextEngineModel", name := "parse", desc := "()V" } : Jvm.MethodName)), (Jvm.Cond.selects "TextEngineModel" ({ cls := "TextEngineModel", name := "read", desc := "(I)I" } : Jvm.MethodName) ({ cls := "TextEngineModel", name := "read", desc := "(I)I" } : Jvm.MethodName)), (Jvm.Cond.selects "TextEngineModel" ({ cls := "TextEngineModel", name := "bad", desc := "(ZII)V" } : Jvm.MethodName) ({ cls := "TextEngineModel", name := "bad", desc := "(ZII)V" } : Jvm.MethodName)), (Jvm.Cond.selects "TextEngineModel" ({ cls := "TextEngineModel", name := "u", desc := "(II)I" } : Jvm.MethodName) ({ cls := "TextEngineModel", name := "u", desc := "(II)I" } : Jvm.MethodName)), (Jvm.Cond.selects "TextEngineModel" ({ cls := "TextEngineModel", name := "many", desc := "(I)I" } : Jvm.MethodName) ({ cls := "TextEngineModel", name := "many", desc := "(I)I" } : Jvm.MethodName)), (Jvm.Cond.selects "TextEngineModel" ({ cls := "TextEngineModel", name := "string", desc := "(Z)V" } : Jvm.MethodName) ({ cls := "TextEngineModel", name := "string", desc := "(Z)V" } : Jvm.MethodName)), (Jvm.Cond.selects "TextEngineModel" ({ cls := "TextEngineModel", name := "alike", desc := "(II)Z" } : Jvm.MethodName) ({ cls := "TextEngineModel", name := "alike", desc := "(II)Z" } : Jvm.MethodName)), (Jvm.Cond.selects "TextEngineModel" ({ cls := "TextEngineModel", name := "kind", desc := "()I" } : Jvm.MethodName) ({ cls := "TextEngineModel", name := "kind", desc := "()I" } : Jvm.MethodName)), (Jvm.Cond.selects "TextEngineModel" ({ cls := "TextEngineModel", name := "value", desc := "(I)V" } : Jvm.MethodName) ({ cls := "TextEngineModel", name := "value", desc := "(I)V" } : Jvm.MethodName)), (Jvm.Cond.selects "TextEngineModel" ({ cls := "TextEngineModel", name := "plain", desc := "(I)V" } : Jvm.MethodName) ({ cls := "TextEngineModel", name := "plain", desc := "(I)V" } : Jvm.MethodName)), (Jvm.Cond.selects "TextEngineModel" ({ cls := "TextEngineModel", name := "info", desc := "(I)V" } : Jvm.MethodName) ({ cls := "TextEngineModel", name := "info", desc := "(I)V" } : Jvm.MethodName)), (Jvm.Cond.selects "TextEngineModel" ({ cls := "TextEngineModel", name := "look", desc := "()V" } : Jvm.MethodName) ({ cls := "TextEngineModel", name := "look", desc := "()V" } : Jvm.MethodName)), (Jvm.Cond.selects "TextEngineModel" ({ cls := "TextEngineModel", name := "key", desc := "(JII)I" } : Jvm.MethodName) ({ cls := "TextEngineModel", name := "key", desc := "(JII)I" } : Jvm.MethodName)), (Jvm.Cond.selects "TextEngineModel" ({ cls := "TextEngineModel", name := "is", desc := "(IJI)Z" } : Jvm.MethodName) ({ cls := "TextEngineModel", name := "is", desc := "(IJI)Z" } : Jvm.MethodName))]
def xq_2 : List Cond := [(Jvm.Cond.selects "TextEngineModel" ({ cls := "TextEngineModel", name := "typesFit", desc := "(II)Z" } : Jvm.MethodName) ({ cls := "TextEngineModel", name := "typesFit", desc := "(II)Z" } : Jvm.MethodName)), (Jvm.Cond.selects "TextEngineModel" ({ cls := "TextEngineModel", name := "half", desc := "(I)J" } : Jvm.MethodName) ({ cls := "TextEngineModel", name := "half", desc := "(I)J" } : Jvm.MethodName)), (Jvm.Cond.selects "TextEngineModel" ({ cls := "TextEngineModel", name := "texts", desc := "(I)Z" } : Jvm.MethodName) ({ cls := "TextEngineModel", name := "texts", desc := "(I)Z" } : Jvm.MethodName)), (Jvm.Cond.selects "TextEngineModel" ({ cls := "TextEngineModel", name := "pairsOf", desc := "(I)Z" } : Jvm.MethodName) ({ cls := "TextEngineModel", name := "pairsOf", desc := "(I)Z" } : Jvm.MethodName)), (Jvm.Cond.selects "TextEngineModel" ({ cls := "TextEngineModel", name := "together", desc := "(II)I" } : Jvm.MethodName) ({ cls := "TextEngineModel", name := "together", desc := "(II)I" } : Jvm.MethodName)), (Jvm.Cond.selects "TextEngineModel" ({ cls := "TextEngineModel", name := "align", desc := "()V" } : Jvm.MethodName) ({ cls := "TextEngineModel", name := "align", desc := "()V" } : Jvm.MethodName)), (Jvm.Cond.selects "TextEngineModel" ({ cls := "TextEngineModel", name := "shapes", desc := "()V" } : Jvm.MethodName) ({ cls := "TextEngineModel", name := "shapes", desc := "()V" } : Jvm.MethodName)), (Jvm.Cond.selects "TextEngineModel" ({ cls := "TextEngineModel", name := "need", desc := "(IJIII)V" } : Jvm.MethodName) ({ cls := "TextEngineModel", name := "need", desc := "(IJIII)V" } : Jvm.MethodName)), (Jvm.Cond.selects "TextEngineModel" ({ cls := "TextEngineModel", name := "places", desc := "()V" } : Jvm.MethodName) ({ cls := "TextEngineModel", name := "places", desc := "()V" } : Jvm.MethodName)), (Jvm.Cond.selects "TextEngineModel" ({ cls := "TextEngineModel", name := "octets", desc := "(I)I" } : Jvm.MethodName) ({ cls := "TextEngineModel", name := "octets", desc := "(I)I" } : Jvm.MethodName)), (Jvm.Cond.selects "TextEngineModel" ({ cls := "TextEngineModel", name := "take", desc := "()V" } : Jvm.MethodName) ({ cls := "TextEngineModel", name := "take", desc := "()V" } : Jvm.MethodName)), (Jvm.Cond.selects "TextEngineModel" ({ cls := "TextEngineModel", name := "weigh", desc := "(II)F" } : Jvm.MethodName) ({ cls := "TextEngineModel", name := "weigh", desc := "(II)F" } : Jvm.MethodName)), (Jvm.Cond.selects "TextEngineModel" ({ cls := "TextEngineModel", name := "layer", desc := "(I)V" } : Jvm.MethodName) ({ cls := "TextEngineModel", name := "layer", desc := "(I)V" } : Jvm.MethodName)), (Jvm.Cond.selects "TextEngineModel" ({ cls := "TextEngineModel", name := "norm", desc := "(I)V" } : Jvm.MethodName) ({ cls := "TextEngineModel", name := "norm", desc := "(I)V" } : Jvm.MethodName)), (Jvm.Cond.selects "TextEngineModel" ({ cls := "TextEngineModel", name := "dot", desc := "(II[F)F" } : Jvm.MethodName) ({ cls := "TextEngineModel", name := "dot", desc := "(II[F)F" } : Jvm.MethodName)), (Jvm.Cond.selects "TextEngineModel" ({ cls := "TextEngineModel", name := "turnAll", desc := "([FI)V" } : Jvm.MethodName) ({ cls := "TextEngineModel", name := "turnAll", desc := "([FI)V" } : Jvm.MethodName)), (Jvm.Cond.selects "TextEngineModel" ({ cls := "TextEngineModel", name := "attend", desc := "(I)V" } : Jvm.MethodName) ({ cls := "TextEngineModel", name := "attend", desc := "(I)V" } : Jvm.MethodName)), (Jvm.Cond.selects "TextEngineModel" ({ cls := "TextEngineModel", name := "sort", desc := "()V" } : Jvm.MethodName) ({ cls := "TextEngineModel", name := "sort", desc := "()V" } : Jvm.MethodName))]
set_option maxRecDepth 100000 in
theorem xqe_0 : k2_sels lw_privs = xq_0 ++ (xq_1 ++ (xq_2)) := rfl
theorem xqi_0 {w : Cond} (h : w ∈ xq_0) : w ∈ lw_tbl := (List.mem_append_left _ (by rw [xqe_0]; exact (List.mem_append_left _ h)))
theorem xw0 (i : Nat) {w : Cond} (h : xq_0[i]? = some w) (g : goodWord w = true) : w ∈ xTB := List.mem_filter.mpr ⟨xqi_0 (List.mem_of_getElem? h), g⟩
theorem xqi_1 {w : Cond} (h : w ∈ xq_1) : w ∈ lw_tbl := (List.mem_append_left _ (by rw [xqe_0]; exact (List.mem_append_right _ (List.mem_append_left _ h))))
theorem xw1 (i : Nat) {w : Cond} (h : xq_1[i]? = some w) (g : goodWord w = true) : w ∈ xTB := List.mem_filter.mpr ⟨xqi_1 (List.mem_of_getElem? h), g⟩
theorem xqi_2 {w : Cond} (h : w ∈ xq_2) : w ∈ lw_tbl := (List.mem_append_left _ (by rw [xqe_0]; exact (List.mem_append_right _ (List.mem_append_right _ h))))
theorem xw2 (i : Nat) {w : Cond} (h : xq_2[i]? = some w) (g : goodWord w = true) : w ∈ xTB := List.mem_filter.mpr ⟨xqi_2 (List.mem_of_getElem? h), g⟩
def xq_3 : List Cond := [(Jvm.Cond.initialized "TextEngineLaw"), (Jvm.Cond.initialized "TextEngine"), (Jvm.Cond.initialized "TextEngine$Octets"), (Jvm.Cond.initialized "TextEngine$Reader"), (Jvm.Cond.initialized "TextEngine$Maker"), (Jvm.Cond.initialized "TextEngine$Encoder"), (Jvm.Cond.initialized "TextEngine$Network"), (Jvm.Cond.initialized "TextEngine$Chooser"), (Jvm.Cond.initialized "TextEngine$Sayings"), (Jvm.Cond.initialized "TextEngine$Model"), (Jvm.Cond.initialized "TextEngine$Words"), (Jvm.Cond.initialized "TextEngine$Tensors"), (Jvm.Cond.initialized "TextEngineModel"), (Jvm.Cond.initialized "java/lang/String"), (Jvm.Cond.initialized "java/lang/StringLatin1"), (Jvm.Cond.initialized "jdk/internal/util/Preconditions"), (Jvm.Cond.initialized "java/lang/StringUTF16"), (Jvm.Cond.initialized "java/lang/Math"), (Jvm.Cond.classLink "TextEngineLaw" (7 : Nat) "TextEngine"), (Jvm.Cond.instantiable "TextEngine" (10 : Nat)), (Jvm.Cond.methodLink "TextEngineLaw" (9 : Nat) ({ cls := "TextEngine", name := "<init>", desc := "()V" } : Jvm.MethodName)), (Jvm.Cond.instanceMethod ({ cls := "TextEngine", name := "<init>", desc := "()V" } : Jvm.MethodName)), (Jvm.Cond.code ({ cls := "TextEngine", name := "<init>", desc := "()V" } : Jvm.MethodName) prog_1_method_1_code (1 : Nat) (Option.none : Option Jvm.ClassFile.FieldType)), (Jvm.Cond.methodLink "TextEngine" (3 : Nat) ({ cls := "java/lang/Object", name := "<init>", desc := "()V" } : Jvm.MethodName)), (Jvm.Cond.instanceMethod ({ cls := "java/lang/Object", name := "<init>", desc := "()V" } : Jvm.MethodName)), (Jvm.Cond.code ({ cls := "java/lang/Object", name := "<init>", desc := "()V" } : Jvm.MethodName) object_method_1_code (1 : Nat) (Option.none : Option Jvm.ClassFile.FieldType)), (Jvm.Cond.classLink "TextEngine" (9 : Nat) "TextEngine$Octets"), (Jvm.Cond.instantiable "TextEngine$Octets" (2 : Nat)), (Jvm.Cond.methodLink "TextEngine" (11 : Nat) ({ cls := "TextEngine$Octets", name := "<init>", desc := "(I)V" } : Jvm.MethodName)), (Jvm.Cond.instanceMethod ({ cls := "TextEngine$Octets", name := "<init>", desc := "(I)V" } : Jvm.MethodName)), (Jvm.Cond.code ({ cls := "TextEngine$Octets", name := "<init>", desc := "(I)V" } : Jvm.MethodName) prog_7_method_1_code (2 : Nat) (Option.none : Option Jvm.ClassFile.FieldType)), (Jvm.Cond.methodLink "TextEngine$Octets" (3 : Nat) ({ cls := "java/lang/Object", name := "<init>", desc := "()V" } : Jvm.MethodName))]
def xq_4 : List Cond := [(Jvm.Cond.fieldLink "TextEngine$Octets" (15 : Nat) "TextEngine$Octets" "row" "[B"), (Jvm.Cond.fieldLink "TextEngine$Octets" (9 : Nat) "TextEngine$Octets" "size" "I"), (Jvm.Cond.fieldLinkNest "TextEngine$Encoder" (19 : Nat) "TextEngine$Octets" "size" "I" "TextEngine"), (Jvm.Cond.fieldLinkNest "TextEngine" (85 : Nat) "TextEngine$Octets" "size" "I" "TextEngine"), (Jvm.Cond.fieldLinkNest "TextEngine$Reader" (66 : Nat) "TextEngine$Octets" "size" "I" "TextEngine"), (Jvm.Cond.fieldLinkNest "TextEngine$Maker" (219 : Nat) "TextEngine$Octets" "size" "I" "TextEngine"), (Jvm.Cond.laysFinal "TextEngine$Octets" "TextEngine$Octets" "row" "[B"), (Jvm.Cond.soleField "TextEngine$Octets" "row"), (Jvm.Cond.lays "TextEngine$Octets" "TextEngine$Octets" "size" "I"), (Jvm.Cond.soleField "TextEngine$Octets" "size"), (Jvm.Cond.superclass "TextEngine$Octets" "java/lang/Object"), (Jvm.Cond.arrayClass Jvm.ClassFile.FieldType.byte), (Jvm.Cond.classLink "TextEngine" (21 : Nat) "TextEngine$Reader"), (Jvm.Cond.instantiable "TextEngine$Reader" (14 : Nat)), (Jvm.Cond.methodLink "TextEngine" (23 : Nat) ({ cls := "TextEngine$Reader", name := "<init>", desc := "(LTextEngine$Octets;)V" } : Jvm.MethodName)), (Jvm.Cond.instanceMethod ({ cls := "TextEngine$Reader", name := "<init>", desc := "(LTextEngine$Octets;)V" } : Jvm.MethodName)), (Jvm.Cond.code ({ cls := "TextEngine$Reader", name := "<init>", desc := "(LTextEngine$Octets;)V" } : Jvm.MethodName) prog_8_method_1_code (2 : Nat) (Option.none : Option Jvm.ClassFile.FieldType)), (Jvm.Cond.methodLink "TextEngine$Reader" (3 : Nat) ({ cls := "java/lang/Object", name := "<init>", desc := "()V" } : Jvm.MethodName)), (Jvm.Cond.fieldLink "TextEngine$Reader" (52 : Nat) "TextEngine$Reader" "file" "LTextEngine$Octets;"), (Jvm.Cond.fieldLink "TextEngine$Reader" (9 : Nat) "TextEngine$Reader" "keyAt" "[I"), (Jvm.Cond.fieldLink "TextEngine$Reader" (15 : Nat) "TextEngine$Reader" "types" "[I"), (Jvm.Cond.fieldLinkNest "TextEngine$Maker" (103 : Nat) "TextEngine$Reader" "types" "[I" "TextEngine"), (Jvm.Cond.fieldLink "TextEngine$Reader" (18 : Nat) "TextEngine$Reader" "valueAt" "[I"), (Jvm.Cond.fieldLinkNest "TextEngine$Maker" (102 : Nat) "TextEngine$Reader" "valueAt" "[I" "TextEngine"), (Jvm.Cond.fieldLink "TextEngine$Reader" (21 : Nat) "TextEngine$Reader" "nameAt" "[I"), (Jvm.Cond.fieldLink "TextEngine$Reader" (24 : Nat) "TextEngine$Reader" "columns" "[I"), (Jvm.Cond.fieldLinkNest "TextEngine$Maker" (182 : Nat) "TextEngine$Reader" "columns" "[I" "TextEngine"), (Jvm.Cond.fieldLink "TextEngine$Reader" (27 : Nat) "TextEngine$Reader" "rows" "[I"), (Jvm.Cond.fieldLinkNest "TextEngine$Maker" (186 : Nat) "TextEngine$Reader" "rows" "[I" "TextEngine"), (Jvm.Cond.fieldLink "TextEngine$Reader" (30 : Nat) "TextEngine$Reader" "packings" "[I"), (Jvm.Cond.fieldLinkNest "TextEngine$Maker" (232 : Nat) "TextEngine$Reader" "packings" "[I" "TextEngine"), (Jvm.Cond.fieldLink "TextEngine$Reader" (33 : Nat) "TextEngine$Reader" "offsets" "[I")]
def xq_5 : List Cond := [(Jvm.Cond.fieldLinkNest "TextEngine$Maker" (213 : Nat) "TextEngine$Reader" "offsets" "[I" "TextEngine"), (Jvm.Cond.fieldLink "TextEngine$Reader" (36 : Nat) "TextEngine$Reader" "pairs" "I"), (Jvm.Cond.fieldLinkNest "TextEngine$Maker" (111 : Nat) "TextEngine$Reader" "pairs" "I" "TextEngine"), (Jvm.Cond.fieldLink "TextEngine$Reader" (40 : Nat) "TextEngine$Reader" "tensors" "I"), (Jvm.Cond.fieldLinkNest "TextEngine$Maker" (115 : Nat) "TextEngine$Reader" "tensors" "I" "TextEngine"), (Jvm.Cond.fieldLink "TextEngine$Reader" (43 : Nat) "TextEngine$Reader" "next" "I"), (Jvm.Cond.fieldLinkNest "TextEngine$Maker" (210 : Nat) "TextEngine$Reader" "next" "I" "TextEngine"), (Jvm.Cond.fieldLink "TextEngine$Reader" (46 : Nat) "TextEngine$Reader" "fault" "I"), (Jvm.Cond.fieldLink "TextEngine$Reader" (49 : Nat) "TextEngine$Reader" "faultPlace" "I"), (Jvm.Cond.fieldLinkNest "TextEngine" (112 : Nat) "TextEngine$Reader" "faultPlace" "I" "TextEngine"), (Jvm.Cond.laysFinal "TextEngine$Reader" "TextEngine$Reader" "file" "LTextEngine$Octets;"), (Jvm.Cond.soleField "TextEngine$Reader" "file"), (Jvm.Cond.laysFinal "TextEngine$Reader" "TextEngine$Reader" "keyAt" "[I"), (Jvm.Cond.soleField "TextEngine$Reader" "keyAt"), (Jvm.Cond.laysFinal "TextEngine$Reader" "TextEngine$Reader" "types" "[I"), (Jvm.Cond.soleField "TextEngine$Reader" "types"), (Jvm.Cond.laysFinal "TextEngine$Reader" "TextEngine$Reader" "valueAt" "[I"), (Jvm.Cond.soleField "TextEngine$Reader" "valueAt"), (Jvm.Cond.laysFinal "TextEngine$Reader" "TextEngine$Reader" "nameAt" "[I"), (Jvm.Cond.soleField "TextEngine$Reader" "nameAt"), (Jvm.Cond.laysFinal "TextEngine$Reader" "TextEngine$Reader" "columns" "[I"), (Jvm.Cond.soleField "TextEngine$Reader" "columns"), (Jvm.Cond.laysFinal "TextEngine$Reader" "TextEngine$Reader" "rows" "[I"), (Jvm.Cond.soleField "TextEngine$Reader" "rows"), (Jvm.Cond.laysFinal "TextEngine$Reader" "TextEngine$Reader" "packings" "[I"), (Jvm.Cond.soleField "TextEngine$Reader" "packings"), (Jvm.Cond.laysFinal "TextEngine$Reader" "TextEngine$Reader" "offsets" "[I"), (Jvm.Cond.soleField "TextEngine$Reader" "offsets"), (Jvm.Cond.lays "TextEngine$Reader" "TextEngine$Reader" "pairs" "I"), (Jvm.Cond.soleField "TextEngine$Reader" "pairs"), (Jvm.Cond.lays "TextEngine$Reader" "TextEngine$Reader" "tensors" "I"), (Jvm.Cond.soleField "TextEngine$Reader" "tensors")]
def xq_6 : List Cond := [(Jvm.Cond.lays "TextEngine$Reader" "TextEngine$Reader" "next" "I"), (Jvm.Cond.soleField "TextEngine$Reader" "next"), (Jvm.Cond.lays "TextEngine$Reader" "TextEngine$Reader" "fault" "I"), (Jvm.Cond.soleField "TextEngine$Reader" "fault"), (Jvm.Cond.lays "TextEngine$Reader" "TextEngine$Reader" "faultPlace" "I"), (Jvm.Cond.soleField "TextEngine$Reader" "faultPlace"), (Jvm.Cond.superclass "TextEngine$Reader" "java/lang/Object"), (Jvm.Cond.arrayClass Jvm.ClassFile.FieldType.int), (Jvm.Cond.classLink "TextEngine" (30 : Nat) "TextEngine$Maker"), (Jvm.Cond.instantiable "TextEngine$Maker" (3 : Nat)), (Jvm.Cond.methodLink "TextEngine" (32 : Nat) ({ cls := "TextEngine$Maker", name := "<init>", desc := "(LTextEngine$Octets;LTextEngine$Reader;)V" } : Jvm.MethodName)), (Jvm.Cond.instanceMethod ({ cls := "TextEngine$Maker", name := "<init>", desc := "(LTextEngine$Octets;LTextEngine$Reader;)V" } : Jvm.MethodName)), (Jvm.Cond.code ({ cls := "TextEngine$Maker", name := "<init>", desc := "(LTextEngine$Octets;LTextEngine$Reader;)V" } : Jvm.MethodName) prog_4_method_1_code (3 : Nat) (Option.none : Option Jvm.ClassFile.FieldType)), (Jvm.Cond.methodLink "TextEngine$Maker" (3 : Nat) ({ cls := "java/lang/Object", name := "<init>", desc := "()V" } : Jvm.MethodName)), (Jvm.Cond.fieldLink "TextEngine$Maker" (15 : Nat) "TextEngine$Maker" "file" "LTextEngine$Octets;"), (Jvm.Cond.fieldLink "TextEngine$Maker" (19 : Nat) "TextEngine$Maker" "reader" "LTextEngine$Reader;"), (Jvm.Cond.fieldLink "TextEngine$Maker" (9 : Nat) "TextEngine$Maker" "valueAt" "[I"), (Jvm.Cond.laysFinal "TextEngine$Maker" "TextEngine$Maker" "file" "LTextEngine$Octets;"), (Jvm.Cond.soleField "TextEngine$Maker" "file"), (Jvm.Cond.laysFinal "TextEngine$Maker" "TextEngine$Maker" "reader" "LTextEngine$Reader;"), (Jvm.Cond.soleField "TextEngine$Maker" "reader"), (Jvm.Cond.laysFinal "TextEngine$Maker" "TextEngine$Maker" "valueAt" "[I"), (Jvm.Cond.soleField "TextEngine$Maker" "valueAt"), (Jvm.Cond.superclass "TextEngine$Maker" "java/lang/Object"), (Jvm.Cond.classLink "TextEngine" (39 : Nat) "TextEngine$Encoder"), (Jvm.Cond.instantiable "TextEngine$Encoder" (2 : Nat)), (Jvm.Cond.methodLinkNest "TextEngine" (41 : Nat) ({ cls := "TextEngine$Encoder", name := "<init>", desc := "()V" } : Jvm.MethodName) "TextEngine"), (Jvm.Cond.instanceMethod ({ cls := "TextEngine$Encoder", name := "<init>", desc := "()V" } : Jvm.MethodName)), (Jvm.Cond.code ({ cls := "TextEngine$Encoder", name := "<init>", desc := "()V" } : Jvm.MethodName) prog_3_method_1_code (1 : Nat) (Option.none : Option Jvm.ClassFile.FieldType)), (Jvm.Cond.methodLink "TextEngine$Encoder" (3 : Nat) ({ cls := "java/lang/Object", name := "<init>", desc := "()V" } : Jvm.MethodName)), (Jvm.Cond.fieldLink "TextEngine$Encoder" (9 : Nat) "TextEngine$Encoder" "tokens" "[I"), (Jvm.Cond.fieldLinkNest "TextEngine" (142 : Nat) "TextEngine$Encoder" "tokens" "[I" "TextEngine")]
def xq_7 : List Cond := [(Jvm.Cond.fieldLink "TextEngine$Encoder" (15 : Nat) "TextEngine$Encoder" "count" "I"), (Jvm.Cond.fieldLinkNest "TextEngine" (106 : Nat) "TextEngine$Encoder" "count" "I" "TextEngine"), (Jvm.Cond.laysFinal "TextEngine$Encoder" "TextEngine$Encoder" "tokens" "[I"), (Jvm.Cond.soleField "TextEngine$Encoder" "tokens"), (Jvm.Cond.lays "TextEngine$Encoder" "TextEngine$Encoder" "count" "I"), (Jvm.Cond.soleField "TextEngine$Encoder" "count"), (Jvm.Cond.superclass "TextEngine$Encoder" "java/lang/Object"), (Jvm.Cond.classLink "TextEngine" (46 : Nat) "TextEngine$Network"), (Jvm.Cond.instantiable "TextEngine$Network" (11 : Nat)), (Jvm.Cond.methodLinkNest "TextEngine" (48 : Nat) ({ cls := "TextEngine$Network", name := "<init>", desc := "()V" } : Jvm.MethodName) "TextEngine"), (Jvm.Cond.instanceMethod ({ cls := "TextEngine$Network", name := "<init>", desc := "()V" } : Jvm.MethodName)), (Jvm.Cond.code ({ cls := "TextEngine$Network", name := "<init>", desc := "()V" } : Jvm.MethodName) prog_6_method_1_code (1 : Nat) (Option.none : Option Jvm.ClassFile.FieldType)), (Jvm.Cond.methodLink "TextEngine$Network" (3 : Nat) ({ cls := "java/lang/Object", name := "<init>", desc := "()V" } : Jvm.MethodName)), (Jvm.Cond.classLink "TextEngine$Network" (36 : Nat) "[[F"), (Jvm.Cond.arrayOver (Jvm.ClassFile.FieldType.array Jvm.ClassFile.FieldType.float)), (Jvm.Cond.fieldLink "TextEngine$Network" (9 : Nat) "TextEngine$Network" "x" "[F"), (Jvm.Cond.fieldLink "TextEngine$Network" (15 : Nat) "TextEngine$Network" "y" "[F"), (Jvm.Cond.fieldLink "TextEngine$Network" (18 : Nat) "TextEngine$Network" "q" "[F"), (Jvm.Cond.fieldLink "TextEngine$Network" (21 : Nat) "TextEngine$Network" "w" "[F"), (Jvm.Cond.fieldLink "TextEngine$Network" (24 : Nat) "TextEngine$Network" "g" "[F"), (Jvm.Cond.fieldLink "TextEngine$Network" (27 : Nat) "TextEngine$Network" "u" "[F"), (Jvm.Cond.fieldLink "TextEngine$Network" (30 : Nat) "TextEngine$Network" "shares" "[F"), (Jvm.Cond.fieldLink "TextEngine$Network" (33 : Nat) "TextEngine$Network" "logits" "[F"), (Jvm.Cond.fieldLinkNest "TextEngine" (165 : Nat) "TextEngine$Network" "logits" "[F" "TextEngine"), (Jvm.Cond.fieldLink "TextEngine$Network" (38 : Nat) "TextEngine$Network" "keys" "[[F"), (Jvm.Cond.fieldLink "TextEngine$Network" (41 : Nat) "TextEngine$Network" "values" "[[F"), (Jvm.Cond.fieldLink "TextEngine$Network" (44 : Nat) "TextEngine$Network" "steps" "I"), (Jvm.Cond.fieldLinkNest "TextEngine" (154 : Nat) "TextEngine$Network" "steps" "I" "TextEngine"), (Jvm.Cond.laysFinal "TextEngine$Network" "TextEngine$Network" "x" "[F"), (Jvm.Cond.soleField "TextEngine$Network" "x"), (Jvm.Cond.laysFinal "TextEngine$Network" "TextEngine$Network" "y" "[F"), (Jvm.Cond.soleField "TextEngine$Network" "y")]
def xq_8 : List Cond := [(Jvm.Cond.laysFinal "TextEngine$Network" "TextEngine$Network" "q" "[F"), (Jvm.Cond.soleField "TextEngine$Network" "q"), (Jvm.Cond.laysFinal "TextEngine$Network" "TextEngine$Network" "w" "[F"), (Jvm.Cond.soleField "TextEngine$Network" "w"), (Jvm.Cond.laysFinal "TextEngine$Network" "TextEngine$Network" "g" "[F"), (Jvm.Cond.soleField "TextEngine$Network" "g"), (Jvm.Cond.laysFinal "TextEngine$Network" "TextEngine$Network" "u" "[F"), (Jvm.Cond.soleField "TextEngine$Network" "u"), (Jvm.Cond.laysFinal "TextEngine$Network" "TextEngine$Network" "shares" "[F"), (Jvm.Cond.soleField "TextEngine$Network" "shares"), (Jvm.Cond.laysFinal "TextEngine$Network" "TextEngine$Network" "logits" "[F"), (Jvm.Cond.soleField "TextEngine$Network" "logits"), (Jvm.Cond.laysFinal "TextEngine$Network" "TextEngine$Network" "keys" "[[F"), (Jvm.Cond.soleField "TextEngine$Network" "keys"), (Jvm.Cond.laysFinal "TextEngine$Network" "TextEngine$Network" "values" "[[F"), (Jvm.Cond.soleField "TextEngine$Network" "values"), (Jvm.Cond.lays "TextEngine$Network" "TextEngine$Network" "steps" "I"), (Jvm.Cond.soleField "TextEngine$Network" "steps"), (Jvm.Cond.superclass "TextEngine$Network" "java/lang/Object"), (Jvm.Cond.arrayClass Jvm.ClassFile.FieldType.float), (Jvm.Cond.classLink "TextEngine" (53 : Nat) "TextEngine$Chooser"), (Jvm.Cond.instantiable "TextEngine$Chooser" (3 : Nat)), (Jvm.Cond.methodLinkNest "TextEngine" (55 : Nat) ({ cls := "TextEngine$Chooser", name := "<init>", desc := "()V" } : Jvm.MethodName) "TextEngine"), (Jvm.Cond.instanceMethod ({ cls := "TextEngine$Chooser", name := "<init>", desc := "()V" } : Jvm.MethodName)), (Jvm.Cond.code ({ cls := "TextEngine$Chooser", name := "<init>", desc := "()V" } : Jvm.MethodName) prog_2_method_1_code (1 : Nat) (Option.none : Option Jvm.ClassFile.FieldType)), (Jvm.Cond.methodLink "TextEngine$Chooser" (3 : Nat) ({ cls := "java/lang/Object", name := "<init>", desc := "()V" } : Jvm.MethodName)), (Jvm.Cond.fieldLink "TextEngine$Chooser" (9 : Nat) "TextEngine$Chooser" "order" "[I"), (Jvm.Cond.fieldLinkNest "TextEngine" (178 : Nat) "TextEngine$Chooser" "order" "[I" "TextEngine"), (Jvm.Cond.fieldLink "TextEngine$Chooser" (15 : Nat) "TextEngine$Chooser" "sums" "[F"), (Jvm.Cond.fieldLink "TextEngine$Chooser" (19 : Nat) "TextEngine$Chooser" "state" "J"), (Jvm.Cond.fieldLinkNest "TextEngine" (170 : Nat) "TextEngine$Chooser" "state" "J" "TextEngine"), (Jvm.Cond.laysFinal "TextEngine$Chooser" "TextEngine$Chooser" "order" "[I")]
def xq_9 : List Cond := [(Jvm.Cond.soleField "TextEngine$Chooser" "order"), (Jvm.Cond.laysFinal "TextEngine$Chooser" "TextEngine$Chooser" "sums" "[F"), (Jvm.Cond.soleField "TextEngine$Chooser" "sums"), (Jvm.Cond.lays "TextEngine$Chooser" "TextEngine$Chooser" "state" "J"), (Jvm.Cond.soleField "TextEngine$Chooser" "state"), (Jvm.Cond.superclass "TextEngine$Chooser" "java/lang/Object"), (Jvm.Cond.classLink "TextEngine" (60 : Nat) "TextEngine$Sayings"), (Jvm.Cond.instantiable "TextEngine$Sayings" (2 : Nat)), (Jvm.Cond.methodLinkNest "TextEngine" (62 : Nat) ({ cls := "TextEngine$Sayings", name := "<init>", desc := "()V" } : Jvm.MethodName) "TextEngine"), (Jvm.Cond.instanceMethod ({ cls := "TextEngine$Sayings", name := "<init>", desc := "()V" } : Jvm.MethodName)), (Jvm.Cond.code ({ cls := "TextEngine$Sayings", name := "<init>", desc := "()V" } : Jvm.MethodName) prog_9_method_1_code (1 : Nat) (Option.none : Option Jvm.ClassFile.FieldType)), (Jvm.Cond.methodLink "TextEngine$Sayings" (3 : Nat) ({ cls := "java/lang/Object", name := "<init>", desc := "()V" } : Jvm.MethodName)), (Jvm.Cond.fieldLink "TextEngine$Sayings" (9 : Nat) "TextEngine$Sayings" "row" "[I"), (Jvm.Cond.fieldLink "TextEngine$Sayings" (15 : Nat) "TextEngine$Sayings" "total" "I"), (Jvm.Cond.fieldLinkNest "TextEngine" (109 : Nat) "TextEngine$Sayings" "total" "I" "TextEngine"), (Jvm.Cond.laysFinal "TextEngine$Sayings" "TextEngine$Sayings" "row" "[I"), (Jvm.Cond.soleField "TextEngine$Sayings" "row"), (Jvm.Cond.lays "TextEngine$Sayings" "TextEngine$Sayings" "total" "I"), (Jvm.Cond.soleField "TextEngine$Sayings" "total"), (Jvm.Cond.superclass "TextEngine$Sayings" "java/lang/Object"), (Jvm.Cond.classLink "TextEngine" (71 : Nat) "TextEngine$Model"), (Jvm.Cond.instantiable "TextEngine$Model" (7 : Nat)), (Jvm.Cond.methodLinkNest "TextEngine" (73 : Nat) ({ cls := "TextEngine$Model", name := "<init>", desc := "()V" } : Jvm.MethodName) "TextEngine"), (Jvm.Cond.instanceMethod ({ cls := "TextEngine$Model", name := "<init>", desc := "()V" } : Jvm.MethodName)), (Jvm.Cond.code ({ cls := "TextEngine$Model", name := "<init>", desc := "()V" } : Jvm.MethodName) prog_5_method_1_code (1 : Nat) (Option.none : Option Jvm.ClassFile.FieldType)), (Jvm.Cond.methodLink "TextEngine$Model" (3 : Nat) ({ cls := "java/lang/Object", name := "<init>", desc := "()V" } : Jvm.MethodName)), (Jvm.Cond.classLink "TextEngine$Model" (15 : Nat) "TextEngine$Words"), (Jvm.Cond.instantiable "TextEngine$Words" (6 : Nat)), (Jvm.Cond.methodLinkNest "TextEngine$Model" (17 : Nat) ({ cls := "TextEngine$Words", name := "<init>", desc := "()V" } : Jvm.MethodName) "TextEngine"), (Jvm.Cond.instanceMethod ({ cls := "TextEngine$Words", name := "<init>", desc := "()V" } : Jvm.MethodName)), (Jvm.Cond.code ({ cls := "TextEngine$Words", name := "<init>", desc := "()V" } : Jvm.MethodName) prog_11_method_1_code (1 : Nat) (Option.none : Option Jvm.ClassFile.FieldType)), (Jvm.Cond.methodLink "TextEngine$Words" (3 : Nat) ({ cls := "java/lang/Object", name := "<init>", desc := "()V" } : Jvm.MethodName))]
def xq_10 : List Cond := [(Jvm.Cond.fieldLink "TextEngine$Words" (9 : Nat) "TextEngine$Words" "tokens" "[J"), (Jvm.Cond.fieldLink "TextEngine$Words" (15 : Nat) "TextEngine$Words" "left" "[I"), (Jvm.Cond.fieldLinkNest "TextEngine$Encoder" (47 : Nat) "TextEngine$Words" "left" "[I" "TextEngine"), (Jvm.Cond.fieldLink "TextEngine$Words" (19 : Nat) "TextEngine$Words" "right" "[I"), (Jvm.Cond.fieldLinkNest "TextEngine$Encoder" (50 : Nat) "TextEngine$Words" "right" "[I" "TextEngine"), (Jvm.Cond.fieldLink "TextEngine$Words" (22 : Nat) "TextEngine$Words" "both" "[I"), (Jvm.Cond.fieldLinkNest "TextEngine$Encoder" (53 : Nat) "TextEngine$Words" "both" "[I" "TextEngine"), (Jvm.Cond.fieldLink "TextEngine$Words" (25 : Nat) "TextEngine$Words" "count" "I"), (Jvm.Cond.fieldLinkNest "TextEngine$Maker" (161 : Nat) "TextEngine$Words" "count" "I" "TextEngine"), (Jvm.Cond.fieldLink "TextEngine$Words" (29 : Nat) "TextEngine$Words" "merges" "I"), (Jvm.Cond.fieldLinkNest "TextEngine$Encoder" (44 : Nat) "TextEngine$Words" "merges" "I" "TextEngine"), (Jvm.Cond.fieldLinkNest "TextEngine$Maker" (170 : Nat) "TextEngine$Words" "merges" "I" "TextEngine"), (Jvm.Cond.laysFinal "TextEngine$Words" "TextEngine$Words" "tokens" "[J"), (Jvm.Cond.soleField "TextEngine$Words" "tokens"), (Jvm.Cond.laysFinal "TextEngine$Words" "TextEngine$Words" "left" "[I"), (Jvm.Cond.soleField "TextEngine$Words" "left")]
set_option maxRecDepth 100000 in
theorem xqe_1 : tables_1_1 = xq_3 ++ (xq_4 ++ (xq_5 ++ (xq_6 ++ (xq_7 ++ (xq_8 ++ (xq_9 ++ (xq_10))))))) := rfl
theorem xqi_3 {w : Cond} (h : w ∈ xq_3) : w ∈ lw_tbl := (List.mem_append_right _ (List.mem_append_left _ (by rw [xqe_1]; exact (List.mem_append_left _ h))))
theorem xw3 (i : Nat) {w : Cond} (h : xq_3[i]? = some w) (g : goodWord w = true) : w ∈ xTB := List.mem_filter.mpr ⟨xqi_3 (List.mem_of_getElem? h), g⟩
theorem xqi_4 {w : Cond} (h : w ∈ xq_4) : w ∈ lw_tbl := (List.mem_append_right _ (List.mem_append_left _ (by rw [xqe_1]; exact (List.mem_append_right _ (List.mem_append_left _ h)))))
theorem xw4 (i : Nat) {w : Cond} (h : xq_4[i]? = some w) (g : goodWord w = true) : w ∈ xTB := List.mem_filter.mpr ⟨xqi_4 (List.mem_of_getElem? h), g⟩
theorem xqi_5 {w : Cond} (h : w ∈ xq_5) : w ∈ lw_tbl := (List.mem_append_right _ (List.mem_append_left _ (by rw [xqe_1]; exact (List.mem_append_right _ (List.mem_append_right _ (List.mem_append_left _ h))))))
theorem xw5 (i : Nat) {w : Cond} (h : xq_5[i]? = some w) (g : goodWord w = true) : w ∈ xTB := List.mem_filter.mpr ⟨xqi_5 (List.mem_of_getElem? h), g⟩
theorem xqi_6 {w : Cond} (h : w ∈ xq_6) : w ∈ lw_tbl := (List.mem_append_right _ (List.mem_append_left _ (by rw [xqe_1]; exact (List.mem_append_right _ (List.mem_append_right _ (List.mem_append_right _ (List.mem_append_left _ h)))))))
theorem xw6 (i : Nat) {w : Cond} (h : xq_6[i]? = some w) (g : goodWord w = true) : w ∈ xTB := List.mem_filter.mpr ⟨xqi_6 (List.mem_of_getElem? h), g⟩
theorem xqi_7 {w : Cond} (h : w ∈ xq_7) : w ∈ lw_tbl := (List.mem_append_right _ (List.mem_append_left _ (by rw [xqe_1]; exact (List.mem_append_right _ (List.mem_append_right _ (List.mem_append_right _ (List.mem_append_right _ (List.mem_append_left _ h))))))))
theorem xw7 (i : Nat) {w : Cond} (h : xq_7[i]? = some w) (g : goodWord w = true) : w ∈ xTB := List.mem_filter.mpr ⟨xqi_7 (List.mem_of_getElem? h), g⟩
theorem xqi_8 {w : Cond} (h : w ∈ xq_8) : w ∈ lw_tbl := (List.mem_append_right _ (List.mem_append_left _ (by rw [xqe_1]; exact (List.mem_append_right _ (List.mem_append_right _ (List.mem_append_right _ (List.mem_append_right _ (List.mem_append_right _ (List.mem_append_left _ h)))))))))
theorem xw8 (i : Nat) {w : Cond} (h : xq_8[i]? = some w) (g : goodWord w = true) : w ∈ xTB := List.mem_filter.mpr ⟨xqi_8 (List.mem_of_getElem? h), g⟩
theorem xqi_9 {w : Cond} (h : w ∈ xq_9) : w ∈ lw_tbl := (List.mem_append_right _ (List.mem_append_left _ (by rw [xqe_1]; exact (List.mem_append_right _ (List.mem_append_right _ (List.mem_append_right _ (List.mem_append_right _ (List.mem_append_right _ (List.mem_append_right _ (List.mem_append_left _ h))))))))))
theorem xw9 (i : Nat) {w : Cond} (h : xq_9[i]? = some w) (g : goodWord w = true) : w ∈ xTB := List.mem_filter.mpr ⟨xqi_9 (List.mem_of_getElem? h), g⟩
theorem xqi_10 {w : Cond} (h : w ∈ xq_10) : w ∈ lw_tbl := (List.mem_append_right _ (List.mem_append_left _ (by rw [xqe_1]; exact (List.mem_append_right _ (List.mem_append_right _ (List.mem_append_right _ (List.mem_append_right _ (List.mem_append_right _ (List.mem_append_right _ (List.mem_append_right _ h))))))))))
theorem xw10 (i : Nat) {w : Cond} (h : xq_10[i]? = some w) (g : goodWord w = true) : w ∈ xTB := List.mem_filter.mpr ⟨xqi_10 (List.mem_of_getElem? h), g⟩
def xq_11 : List Cond := [(Jvm.Cond.laysFinal "TextEngine$Words" "TextEngine$Words" "right" "[I"), (Jvm.Cond.soleField "TextEngine$Words" "right"), (Jvm.Cond.laysFinal "TextEngine$Words" "TextEngine$Words" "both" "[I"), (Jvm.Cond.soleField "TextEngine$Words" "both"), (Jvm.Cond.lays "TextEngine$Words" "TextEngine$Words" "count" "I"), (Jvm.Cond.soleField "TextEngine$Words" "count"), (Jvm.Cond.lays "TextEngine$Words" "TextEngine$Words" "merges" "I"), (Jvm.Cond.soleField "TextEngine$Words" "merges"), (Jvm.Cond.superclass "TextEngine$Words" "java/lang/Object"), (Jvm.Cond.arrayClass Jvm.ClassFile.FieldType.long), (Jvm.Cond.classLink "TextEngine$Model" (22 : Nat) "TextEngine$Tensors"), (Jvm.Cond.instantiable "TextEngine$Tensors" (6 : Nat)), (Jvm.Cond.methodLinkNest "TextEngine$Model" (24 : Nat) ({ cls := "TextEngine$Tensors", name := "<init>", desc := "()V" } : Jvm.MethodName) "TextEngine"), (Jvm.Cond.instanceMethod ({ cls := "TextEngine$Tensors", name := "<init>", desc := "()V" } : Jvm.MethodName)), (Jvm.Cond.code ({ cls := "TextEngine$Tensors", name := "<init>", desc := "()V" } : Jvm.MethodName) prog_10_method_1_code (1 : Nat) (Option.none : Option Jvm.ClassFile.FieldType)), (Jvm.Cond.methodLink "TextEngine$Tensors" (3 : Nat) ({ cls := "java/lang/Object", name := "<init>", desc := "()V" } : Jvm.MethodName)), (Jvm.Cond.fieldLink "TextEngine$Tensors" (9 : Nat) "TextEngine$Tensors" "starts" "[I"), (Jvm.Cond.fieldLinkNest "TextEngine$Maker" (225 : Nat) "TextEngine$Tensors" "starts" "[I" "TextEngine"), (Jvm.Cond.fieldLink "TextEngine$Tensors" (15 : Nat) "TextEngine$Tensors" "columns" "[I"), (Jvm.Cond.fieldLinkNest "TextEngine$Maker" (179 : Nat) "TextEngine$Tensors" "columns" "[I" "TextEngine"), (Jvm.Cond.fieldLink "TextEngine$Tensors" (18 : Nat) "TextEngine$Tensors" "rows" "[I"), (Jvm.Cond.fieldLinkNest "TextEngine$Maker" (183 : Nat) "TextEngine$Tensors" "rows" "[I" "TextEngine"), (Jvm.Cond.fieldLink "TextEngine$Tensors" (21 : Nat) "TextEngine$Tensors" "needed" "[I"), (Jvm.Cond.fieldLinkNest "TextEngine$Network" (54 : Nat) "TextEngine$Tensors" "needed" "[I" "TextEngine"), (Jvm.Cond.fieldLinkNest "TextEngine$Maker" (207 : Nat) "TextEngine$Tensors" "needed" "[I" "TextEngine"), (Jvm.Cond.fieldLink "TextEngine$Tensors" (24 : Nat) "TextEngine$Tensors" "weights" "[F"), (Jvm.Cond.fieldLinkNest "TextEngine$Maker" (235 : Nat) "TextEngine$Tensors" "weights" "[F" "TextEngine"), (Jvm.Cond.fieldLink "TextEngine$Tensors" (28 : Nat) "TextEngine$Tensors" "count" "I"), (Jvm.Cond.fieldLinkNest "TextEngine$Maker" (176 : Nat) "TextEngine$Tensors" "count" "I" "TextEngine"), (Jvm.Cond.laysFinal "TextEngine$Tensors" "TextEngine$Tensors" "starts" "[I"), (Jvm.Cond.soleField "TextEngine$Tensors" "starts"), (Jvm.Cond.laysFinal "TextEngine$Tensors" "TextEngine$Tensors" "columns" "[I")]
def xq_12 : List Cond := [(Jvm.Cond.soleField "TextEngine$Tensors" "columns"), (Jvm.Cond.laysFinal "TextEngine$Tensors" "TextEngine$Tensors" "rows" "[I"), (Jvm.Cond.soleField "TextEngine$Tensors" "rows"), (Jvm.Cond.laysFinal "TextEngine$Tensors" "TextEngine$Tensors" "needed" "[I"), (Jvm.Cond.soleField "TextEngine$Tensors" "needed"), (Jvm.Cond.laysFinal "TextEngine$Tensors" "TextEngine$Tensors" "weights" "[F"), (Jvm.Cond.soleField "TextEngine$Tensors" "weights"), (Jvm.Cond.lays "TextEngine$Tensors" "TextEngine$Tensors" "count" "I"), (Jvm.Cond.soleField "TextEngine$Tensors" "count"), (Jvm.Cond.superclass "TextEngine$Tensors" "java/lang/Object"), (Jvm.Cond.fieldLink "TextEngine$Model" (9 : Nat) "TextEngine$Model" "facts" "[I"), (Jvm.Cond.fieldLinkNest "TextEngine$Maker" (40 : Nat) "TextEngine$Model" "facts" "[I" "TextEngine"), (Jvm.Cond.fieldLinkNest "TextEngine$Network" (60 : Nat) "TextEngine$Model" "facts" "[I" "TextEngine"), (Jvm.Cond.fieldLinkNest "TextEngine" (115 : Nat) "TextEngine$Model" "facts" "[I" "TextEngine"), (Jvm.Cond.fieldLink "TextEngine$Model" (18 : Nat) "TextEngine$Model" "words" "LTextEngine$Words;"), (Jvm.Cond.fieldLinkNest "TextEngine" (134 : Nat) "TextEngine$Model" "words" "LTextEngine$Words;" "TextEngine"), (Jvm.Cond.fieldLinkNest "TextEngine$Maker" (157 : Nat) "TextEngine$Model" "words" "LTextEngine$Words;" "TextEngine"), (Jvm.Cond.fieldLink "TextEngine$Model" (25 : Nat) "TextEngine$Model" "tensors" "LTextEngine$Tensors;"), (Jvm.Cond.fieldLinkNest "TextEngine$Maker" (53 : Nat) "TextEngine$Model" "tensors" "LTextEngine$Tensors;" "TextEngine"), (Jvm.Cond.fieldLinkNest "TextEngine$Network" (48 : Nat) "TextEngine$Model" "tensors" "LTextEngine$Tensors;" "TextEngine"), (Jvm.Cond.fieldLinkNest "TextEngine" (119 : Nat) "TextEngine$Model" "tensors" "LTextEngine$Tensors;" "TextEngine"), (Jvm.Cond.fieldLink "TextEngine$Model" (29 : Nat) "TextEngine$Model" "eps" "F"), (Jvm.Cond.fieldLinkNest "TextEngine$Network" (82 : Nat) "TextEngine$Model" "eps" "F" "TextEngine"), (Jvm.Cond.fieldLinkNest "TextEngine$Maker" (144 : Nat) "TextEngine$Model" "eps" "F" "TextEngine"), (Jvm.Cond.fieldLink "TextEngine$Model" (33 : Nat) "TextEngine$Model" "base" "F"), (Jvm.Cond.fieldLinkNest "TextEngine$Network" (117 : Nat) "TextEngine$Model" "base" "F" "TextEngine"), (Jvm.Cond.fieldLinkNest "TextEngine$Maker" (147 : Nat) "TextEngine$Model" "base" "F" "TextEngine"), (Jvm.Cond.fieldLink "TextEngine$Model" (36 : Nat) "TextEngine$Model" "headSize" "I"), (Jvm.Cond.fieldLinkNest "TextEngine$Network" (98 : Nat) "TextEngine$Model" "headSize" "I" "TextEngine"), (Jvm.Cond.fieldLinkNest "TextEngine$Maker" (127 : Nat) "TextEngine$Model" "headSize" "I" "TextEngine"), (Jvm.Cond.fieldLink "TextEngine$Model" (40 : Nat) "TextEngine$Model" "sharers" "I"), (Jvm.Cond.fieldLinkNest "TextEngine$Network" (101 : Nat) "TextEngine$Model" "sharers" "I" "TextEngine")]
def xq_13 : List Cond := [(Jvm.Cond.fieldLinkNest "TextEngine$Maker" (130 : Nat) "TextEngine$Model" "sharers" "I" "TextEngine"), (Jvm.Cond.laysFinal "TextEngine$Model" "TextEngine$Model" "facts" "[I"), (Jvm.Cond.soleField "TextEngine$Model" "facts"), (Jvm.Cond.laysFinal "TextEngine$Model" "TextEngine$Model" "words" "LTextEngine$Words;"), (Jvm.Cond.soleField "TextEngine$Model" "words"), (Jvm.Cond.laysFinal "TextEngine$Model" "TextEngine$Model" "tensors" "LTextEngine$Tensors;"), (Jvm.Cond.soleField "TextEngine$Model" "tensors"), (Jvm.Cond.lays "TextEngine$Model" "TextEngine$Model" "eps" "F"), (Jvm.Cond.soleField "TextEngine$Model" "eps"), (Jvm.Cond.lays "TextEngine$Model" "TextEngine$Model" "base" "F"), (Jvm.Cond.soleField "TextEngine$Model" "base"), (Jvm.Cond.lays "TextEngine$Model" "TextEngine$Model" "headSize" "I"), (Jvm.Cond.soleField "TextEngine$Model" "headSize"), (Jvm.Cond.lays "TextEngine$Model" "TextEngine$Model" "sharers" "I"), (Jvm.Cond.soleField "TextEngine$Model" "sharers"), (Jvm.Cond.superclass "TextEngine$Model" "java/lang/Object"), (Jvm.Cond.fieldLink "TextEngine" (14 : Nat) "TextEngine" "file" "LTextEngine$Octets;"), (Jvm.Cond.fieldLink "TextEngine" (18 : Nat) "TextEngine" "text" "LTextEngine$Octets;"), (Jvm.Cond.fieldLink "TextEngine" (26 : Nat) "TextEngine" "reader" "LTextEngine$Reader;"), (Jvm.Cond.fieldLink "TextEngine" (35 : Nat) "TextEngine" "maker" "LTextEngine$Maker;"), (Jvm.Cond.fieldLink "TextEngine" (42 : Nat) "TextEngine" "encoder" "LTextEngine$Encoder;"), (Jvm.Cond.fieldLink "TextEngine" (49 : Nat) "TextEngine" "network" "LTextEngine$Network;"), (Jvm.Cond.fieldLink "TextEngine" (56 : Nat) "TextEngine" "chooser" "LTextEngine$Chooser;"), (Jvm.Cond.fieldLink "TextEngine" (63 : Nat) "TextEngine" "sayings" "LTextEngine$Sayings;"), (Jvm.Cond.fieldLink "TextEngine" (67 : Nat) "TextEngine" "model" "LTextEngine$Model;"), (Jvm.Cond.fieldLink "TextEngine" (74 : Nat) "TextEngine" "spare" "LTextEngine$Model;"), (Jvm.Cond.laysFinal "TextEngine" "TextEngine" "file" "LTextEngine$Octets;"), (Jvm.Cond.soleField "TextEngine" "file"), (Jvm.Cond.laysFinal "TextEngine" "TextEngine" "text" "LTextEngine$Octets;"), (Jvm.Cond.soleField "TextEngine" "text"), (Jvm.Cond.laysFinal "TextEngine" "TextEngine" "reader" "LTextEngine$Reader;"), (Jvm.Cond.soleField "TextEngine" "reader")]
def xq_14 : List Cond := [(Jvm.Cond.laysFinal "TextEngine" "TextEngine" "maker" "LTextEngine$Maker;"), (Jvm.Cond.soleField "TextEngine" "maker"), (Jvm.Cond.laysFinal "TextEngine" "TextEngine" "encoder" "LTextEngine$Encoder;"), (Jvm.Cond.soleField "TextEngine" "encoder"), (Jvm.Cond.laysFinal "TextEngine" "TextEngine" "network" "LTextEngine$Network;"), (Jvm.Cond.soleField "TextEngine" "network"), (Jvm.Cond.laysFinal "TextEngine" "TextEngine" "chooser" "LTextEngine$Chooser;"), (Jvm.Cond.soleField "TextEngine" "chooser"), (Jvm.Cond.laysFinal "TextEngine" "TextEngine" "sayings" "LTextEngine$Sayings;"), (Jvm.Cond.soleField "TextEngine" "sayings"), (Jvm.Cond.lays "TextEngine" "TextEngine" "model" "LTextEngine$Model;"), (Jvm.Cond.soleField "TextEngine" "model"), (Jvm.Cond.lays "TextEngine" "TextEngine" "spare" "LTextEngine$Model;"), (Jvm.Cond.soleField "TextEngine" "spare"), (Jvm.Cond.superclass "TextEngine" "java/lang/Object"), (Jvm.Cond.methodLink "TextEngineLaw" (15 : Nat) ({ cls := "TextEngine", name := "file", desc := "(JI)I" } : Jvm.MethodName)), (Jvm.Cond.instanceMethod ({ cls := "TextEngine", name := "file", desc := "(JI)I" } : Jvm.MethodName)), (Jvm.Cond.selects "TextEngine" ({ cls := "TextEngine", name := "file", desc := "(JI)I" } : Jvm.MethodName) ({ cls := "TextEngine", name := "file", desc := "(JI)I" } : Jvm.MethodName)), (Jvm.Cond.code ({ cls := "TextEngine", name := "file", desc := "(JI)I" } : Jvm.MethodName) prog_1_method_2_code (4 : Nat) (Option.some Jvm.ClassFile.FieldType.int)), (Jvm.Cond.methodLink "TextEngine" (77 : Nat) ({ cls := "TextEngine$Octets", name := "append", desc := "(JI)I" } : Jvm.MethodName)), (Jvm.Cond.instanceMethod ({ cls := "TextEngine$Octets", name := "append", desc := "(JI)I" } : Jvm.MethodName)), (Jvm.Cond.selects "TextEngine$Octets" ({ cls := "TextEngine$Octets", name := "append", desc := "(JI)I" } : Jvm.MethodName) ({ cls := "TextEngine$Octets", name := "append", desc := "(JI)I" } : Jvm.MethodName)), (Jvm.Cond.code ({ cls := "TextEngine$Octets", name := "append", desc := "(JI)I" } : Jvm.MethodName) prog_7_method_2_code (5 : Nat) (Option.some Jvm.ClassFile.FieldType.int)), (Jvm.Cond.methodLink "TextEngineLaw" (20 : Nat) ({ cls := "TextEngine", name := "flip", desc := "(II)I" } : Jvm.MethodName)), (Jvm.Cond.instanceMethod ({ cls := "TextEngine", name := "flip", desc := "(II)I" } : Jvm.MethodName)), (Jvm.Cond.selects "TextEngine" ({ cls := "TextEngine", name := "flip", desc := "(II)I" } : Jvm.MethodName) ({ cls := "TextEngine", name := "flip", desc := "(II)I" } : Jvm.MethodName)), (Jvm.Cond.code ({ cls := "TextEngine", name := "flip", desc := "(II)I" } : Jvm.MethodName) prog_1_method_3_code (3 : Nat) (Option.some Jvm.ClassFile.FieldType.int)), (Jvm.Cond.methodLink "TextEngine" (81 : Nat) ({ cls := "TextEngine$Octets", name := "change", desc := "(II)I" } : Jvm.MethodName)), (Jvm.Cond.instanceMethod ({ cls := "TextEngine$Octets", name := "change", desc := "(II)I" } : Jvm.MethodName)), (Jvm.Cond.selects "TextEngine$Octets" ({ cls := "TextEngine$Octets", name := "change", desc := "(II)I" } : Jvm.MethodName) ({ cls := "TextEngine$Octets", name := "change", desc := "(II)I" } : Jvm.MethodName)), (Jvm.Cond.code ({ cls := "TextEngine$Octets", name := "change", desc := "(II)I" } : Jvm.MethodName) prog_7_method_3_code (3 : Nat) (Option.some Jvm.ClassFile.FieldType.int)), (Jvm.Cond.methodLink "TextEngineLaw" (25 : Nat) ({ cls := "TextEngine", name := "clear", desc := "()I" } : Jvm.MethodName))]
def xq_15 : List Cond := [(Jvm.Cond.instanceMethod ({ cls := "TextEngine", name := "clear", desc := "()I" } : Jvm.MethodName)), (Jvm.Cond.selects "TextEngine" ({ cls := "TextEngine", name := "clear", desc := "()I" } : Jvm.MethodName) ({ cls := "TextEngine", name := "clear", desc := "()I" } : Jvm.MethodName)), (Jvm.Cond.code ({ cls := "TextEngine", name := "clear", desc := "()I" } : Jvm.MethodName) prog_1_method_4_code (2 : Nat) (Option.some Jvm.ClassFile.FieldType.int)), (Jvm.Cond.methodLink "TextEngineLaw" (30 : Nat) ({ cls := "TextEngine", name := "load", desc := "()I" } : Jvm.MethodName)), (Jvm.Cond.instanceMethod ({ cls := "TextEngine", name := "load", desc := "()I" } : Jvm.MethodName)), (Jvm.Cond.selects "TextEngine" ({ cls := "TextEngine", name := "load", desc := "()I" } : Jvm.MethodName) ({ cls := "TextEngine", name := "load", desc := "()I" } : Jvm.MethodName)), (Jvm.Cond.code ({ cls := "TextEngine", name := "load", desc := "()I" } : Jvm.MethodName) prog_1_method_5_code (2 : Nat) (Option.some Jvm.ClassFile.FieldType.int)), (Jvm.Cond.methodLink "TextEngine" (89 : Nat) ({ cls := "TextEngine$Reader", name := "readParts", desc := "()I" } : Jvm.MethodName)), (Jvm.Cond.instanceMethod ({ cls := "TextEngine$Reader", name := "readParts", desc := "()I" } : Jvm.MethodName)), (Jvm.Cond.selects "TextEngine$Reader" ({ cls := "TextEngine$Reader", name := "readParts", desc := "()I" } : Jvm.MethodName) ({ cls := "TextEngine$Reader", name := "readParts", desc := "()I" } : Jvm.MethodName)), (Jvm.Cond.code ({ cls := "TextEngine$Reader", name := "readParts", desc := "()I" } : Jvm.MethodName) prog_8_method_2_code (1 : Nat) (Option.some Jvm.ClassFile.FieldType.int)), (Jvm.Cond.methodLink "TextEngine$Reader" (56 : Nat) ({ cls := "TextEngine$Reader", name := "readHead", desc := "()Z" } : Jvm.MethodName)), (Jvm.Cond.privateMethod ({ cls := "TextEngine$Reader", name := "readHead", desc := "()Z" } : Jvm.MethodName)), (Jvm.Cond.instanceMethod ({ cls := "TextEngine$Reader", name := "readHead", desc := "()Z" } : Jvm.MethodName)), (Jvm.Cond.code ({ cls := "TextEngine$Reader", name := "readHead", desc := "()Z" } : Jvm.MethodName) prog_8_method_8_code (6 : Nat) (Option.some Jvm.ClassFile.FieldType.boolean)), (Jvm.Cond.methodLink "TextEngine$Reader" (92 : Nat) ({ cls := "TextEngine$Reader", name := "readNumber", desc := "(I)J" } : Jvm.MethodName)), (Jvm.Cond.privateMethod ({ cls := "TextEngine$Reader", name := "readNumber", desc := "(I)J" } : Jvm.MethodName)), (Jvm.Cond.instanceMethod ({ cls := "TextEngine$Reader", name := "readNumber", desc := "(I)J" } : Jvm.MethodName)), (Jvm.Cond.code ({ cls := "TextEngine$Reader", name := "readNumber", desc := "(I)J" } : Jvm.MethodName) prog_8_method_4_code (4 : Nat) (Option.some Jvm.ClassFile.FieldType.long)), (Jvm.Cond.methodLink "TextEngine$Reader" (71 : Nat) ({ cls := "TextEngine$Reader", name := "fail", desc := "(II)Z" } : Jvm.MethodName)), (Jvm.Cond.privateMethod ({ cls := "TextEngine$Reader", name := "fail", desc := "(II)Z" } : Jvm.MethodName)), (Jvm.Cond.instanceMethod ({ cls := "TextEngine$Reader", name := "fail", desc := "(II)Z" } : Jvm.MethodName)), (Jvm.Cond.code ({ cls := "TextEngine$Reader", name := "fail", desc := "(II)Z" } : Jvm.MethodName) prog_8_method_3_code (3 : Nat) (Option.some Jvm.ClassFile.FieldType.boolean)), (Jvm.Cond.constantLong "TextEngine$Reader" (75 : Nat) (-1 : Int64)), (Jvm.Cond.methodLink "TextEngine$Reader" (77 : Nat) ({ cls := "TextEngine$Octets", name := "number", desc := "(II)J" } : Jvm.MethodName)), (Jvm.Cond.instanceMethod ({ cls := "TextEngine$Octets", name := "number", desc := "(II)J" } : Jvm.MethodName)), (Jvm.Cond.selects "TextEngine$Octets" ({ cls := "TextEngine$Octets", name := "number", desc := "(II)J" } : Jvm.MethodName) ({ cls := "TextEngine$Octets", name := "number", desc := "(II)J" } : Jvm.MethodName)), (Jvm.Cond.code ({ cls := "TextEngine$Octets", name := "number", desc := "(II)J" } : Jvm.MethodName) prog_7_method_5_code (6 : Nat) (Option.some Jvm.ClassFile.FieldType.long)), (Jvm.Cond.methodLink "TextEngine$Octets" (19 : Nat) ({ cls := "TextEngine$Octets", name := "at", desc := "(I)I" } : Jvm.MethodName)), (Jvm.Cond.instanceMethod ({ cls := "TextEngine$Octets", name := "at", desc := "(I)I" } : Jvm.MethodName)), (Jvm.Cond.selects "TextEngine$Octets" ({ cls := "TextEngine$Octets", name := "at", desc := "(I)I" } : Jvm.MethodName) ({ cls := "TextEngine$Octets", name := "at", desc := "(I)I" } : Jvm.MethodName)), (Jvm.Cond.code ({ cls := "TextEngine$Octets", name := "at", desc := "(I)I" } : Jvm.MethodName) prog_7_method_4_code (2 : Nat) (Option.some Jvm.ClassFile.FieldType.int))]
def xq_16 : List Cond := [(Jvm.Cond.constantLong "TextEngine$Reader" (96 : Nat) (1179993927 : Int64)), (Jvm.Cond.constantLong "TextEngine$Reader" (98 : Nat) (3 : Int64)), (Jvm.Cond.methodLink "TextEngine$Reader" (100 : Nat) ({ cls := "TextEngine$Reader", name := "readSmall", desc := "(III)I" } : Jvm.MethodName)), (Jvm.Cond.privateMethod ({ cls := "TextEngine$Reader", name := "readSmall", desc := "(III)I" } : Jvm.MethodName)), (Jvm.Cond.instanceMethod ({ cls := "TextEngine$Reader", name := "readSmall", desc := "(III)I" } : Jvm.MethodName)), (Jvm.Cond.code ({ cls := "TextEngine$Reader", name := "readSmall", desc := "(III)I" } : Jvm.MethodName) prog_8_method_5_code (5 : Nat) (Option.some Jvm.ClassFile.FieldType.int)), (Jvm.Cond.methodLink "TextEngine$Reader" (81 : Nat) ({ cls := "TextEngine$Octets", name := "at", desc := "(I)I" } : Jvm.MethodName)), (Jvm.Cond.methodLink "TextEngine$Reader" (60 : Nat) ({ cls := "TextEngine$Reader", name := "readPairs", desc := "()Z" } : Jvm.MethodName)), (Jvm.Cond.privateMethod ({ cls := "TextEngine$Reader", name := "readPairs", desc := "()Z" } : Jvm.MethodName)), (Jvm.Cond.instanceMethod ({ cls := "TextEngine$Reader", name := "readPairs", desc := "()Z" } : Jvm.MethodName)), (Jvm.Cond.code ({ cls := "TextEngine$Reader", name := "readPairs", desc := "()Z" } : Jvm.MethodName) prog_8_method_9_code (2 : Nat) (Option.some Jvm.ClassFile.FieldType.boolean)), (Jvm.Cond.methodLink "TextEngine$Reader" (104 : Nat) ({ cls := "TextEngine$Reader", name := "readName", desc := "([II)Z" } : Jvm.MethodName)), (Jvm.Cond.privateMethod ({ cls := "TextEngine$Reader", name := "readName", desc := "([II)Z" } : Jvm.MethodName)), (Jvm.Cond.instanceMethod ({ cls := "TextEngine$Reader", name := "readName", desc := "([II)Z" } : Jvm.MethodName)), (Jvm.Cond.code ({ cls := "TextEngine$Reader", name := "readName", desc := "([II)Z" } : Jvm.MethodName) prog_8_method_7_code (5 : Nat) (Option.some Jvm.ClassFile.FieldType.boolean)), (Jvm.Cond.methodLink "TextEngine$Reader" (85 : Nat) ({ cls := "TextEngine$Reader", name := "readString", desc := "(I)Z" } : Jvm.MethodName)), (Jvm.Cond.privateMethod ({ cls := "TextEngine$Reader", name := "readString", desc := "(I)Z" } : Jvm.MethodName)), (Jvm.Cond.instanceMethod ({ cls := "TextEngine$Reader", name := "readString", desc := "(I)Z" } : Jvm.MethodName)), (Jvm.Cond.code ({ cls := "TextEngine$Reader", name := "readString", desc := "(I)Z" } : Jvm.MethodName) prog_8_method_6_code (3 : Nat) (Option.some Jvm.ClassFile.FieldType.boolean)), (Jvm.Cond.methodLink "TextEngine$Reader" (89 : Nat) ({ cls := "TextEngine$Octets", name := "sameStrings", desc := "(II)Z" } : Jvm.MethodName)), (Jvm.Cond.instanceMethod ({ cls := "TextEngine$Octets", name := "sameStrings", desc := "(II)Z" } : Jvm.MethodName)), (Jvm.Cond.selects "TextEngine$Octets" ({ cls := "TextEngine$Octets", name := "sameStrings", desc := "(II)Z" } : Jvm.MethodName) ({ cls := "TextEngine$Octets", name := "sameStrings", desc := "(II)Z" } : Jvm.MethodName)), (Jvm.Cond.code ({ cls := "TextEngine$Octets", name := "sameStrings", desc := "(II)Z" } : Jvm.MethodName) prog_7_method_6_code (5 : Nat) (Option.some Jvm.ClassFile.FieldType.boolean)), (Jvm.Cond.methodLink "TextEngine$Reader" (108 : Nat) ({ cls := "TextEngine$Reader", name := "readValue", desc := "(II)Z" } : Jvm.MethodName)), (Jvm.Cond.privateMethod ({ cls := "TextEngine$Reader", name := "readValue", desc := "(II)Z" } : Jvm.MethodName)), (Jvm.Cond.instanceMethod ({ cls := "TextEngine$Reader", name := "readValue", desc := "(II)Z" } : Jvm.MethodName)), (Jvm.Cond.code ({ cls := "TextEngine$Reader", name := "readValue", desc := "(II)Z" } : Jvm.MethodName) prog_8_method_10_code (7 : Nat) (Option.some Jvm.ClassFile.FieldType.boolean)), (Jvm.Cond.methodLink "TextEngine$Reader" (63 : Nat) ({ cls := "TextEngine$Reader", name := "readInfos", desc := "()V" } : Jvm.MethodName)), (Jvm.Cond.privateMethod ({ cls := "TextEngine$Reader", name := "readInfos", desc := "()V" } : Jvm.MethodName)), (Jvm.Cond.instanceMethod ({ cls := "TextEngine$Reader", name := "readInfos", desc := "()V" } : Jvm.MethodName)), (Jvm.Cond.code ({ cls := "TextEngine$Reader", name := "readInfos", desc := "()V" } : Jvm.MethodName) prog_8_method_11_code (3 : Nat) (Option.none : Option Jvm.ClassFile.FieldType)), (Jvm.Cond.methodLink "TextEngine$Reader" (111 : Nat) ({ cls := "TextEngine$Reader", name := "readSides", desc := "(I)Z" } : Jvm.MethodName))]
def xq_17 : List Cond := [(Jvm.Cond.privateMethod ({ cls := "TextEngine$Reader", name := "readSides", desc := "(I)Z" } : Jvm.MethodName)), (Jvm.Cond.instanceMethod ({ cls := "TextEngine$Reader", name := "readSides", desc := "(I)Z" } : Jvm.MethodName)), (Jvm.Cond.code ({ cls := "TextEngine$Reader", name := "readSides", desc := "(I)Z" } : Jvm.MethodName) prog_8_method_12_code (4 : Nat) (Option.some Jvm.ClassFile.FieldType.boolean)), (Jvm.Cond.methodLink "TextEngine" (93 : Nat) ({ cls := "TextEngine$Maker", name := "make", desc := "(LTextEngine$Model;)I" } : Jvm.MethodName)), (Jvm.Cond.instanceMethod ({ cls := "TextEngine$Maker", name := "make", desc := "(LTextEngine$Model;)I" } : Jvm.MethodName)), (Jvm.Cond.selects "TextEngine$Maker" ({ cls := "TextEngine$Maker", name := "make", desc := "(LTextEngine$Model;)I" } : Jvm.MethodName) ({ cls := "TextEngine$Maker", name := "make", desc := "(LTextEngine$Model;)I" } : Jvm.MethodName)), (Jvm.Cond.code ({ cls := "TextEngine$Maker", name := "make", desc := "(LTextEngine$Model;)I" } : Jvm.MethodName) prog_4_method_2_code (3 : Nat) (Option.some Jvm.ClassFile.FieldType.int)), (Jvm.Cond.methodLink "TextEngine$Maker" (23 : Nat) ({ cls := "TextEngine$Maker", name := "findKeys", desc := "()Z" } : Jvm.MethodName)), (Jvm.Cond.privateMethod ({ cls := "TextEngine$Maker", name := "findKeys", desc := "()Z" } : Jvm.MethodName)), (Jvm.Cond.instanceMethod ({ cls := "TextEngine$Maker", name := "findKeys", desc := "()Z" } : Jvm.MethodName)), (Jvm.Cond.code ({ cls := "TextEngine$Maker", name := "findKeys", desc := "()Z" } : Jvm.MethodName) prog_4_method_3_code (1 : Nat) (Option.some Jvm.ClassFile.FieldType.boolean)), (Jvm.Cond.stringRef "TextEngine$Maker" (61 : Nat) "dim"), (Jvm.Cond.methodLink "TextEngine$Maker" (63 : Nat) ({ cls := "TextEngine$Maker", name := "findKey", desc := "(ILjava/lang/String;I)Z" } : Jvm.MethodName)), (Jvm.Cond.privateMethod ({ cls := "TextEngine$Maker", name := "findKey", desc := "(ILjava/lang/String;I)Z" } : Jvm.MethodName)), (Jvm.Cond.instanceMethod ({ cls := "TextEngine$Maker", name := "findKey", desc := "(ILjava/lang/String;I)Z" } : Jvm.MethodName)), (Jvm.Cond.code ({ cls := "TextEngine$Maker", name := "findKey", desc := "(ILjava/lang/String;I)Z" } : Jvm.MethodName) prog_4_method_4_code (5 : Nat) (Option.some Jvm.ClassFile.FieldType.boolean)), (Jvm.Cond.methodLink "TextEngine$Maker" (96 : Nat) ({ cls := "TextEngine$Reader", name := "pairOf", desc := "(Ljava/lang/String;)I" } : Jvm.MethodName)), (Jvm.Cond.instanceMethod ({ cls := "TextEngine$Reader", name := "pairOf", desc := "(Ljava/lang/String;)I" } : Jvm.MethodName)), (Jvm.Cond.selects "TextEngine$Reader" ({ cls := "TextEngine$Reader", name := "pairOf", desc := "(Ljava/lang/String;)I" } : Jvm.MethodName) ({ cls := "TextEngine$Reader", name := "pairOf", desc := "(Ljava/lang/String;)I" } : Jvm.MethodName)), (Jvm.Cond.code ({ cls := "TextEngine$Reader", name := "pairOf", desc := "(Ljava/lang/String;)I" } : Jvm.MethodName) prog_8_method_14_code (3 : Nat) (Option.some Jvm.ClassFile.FieldType.int)), (Jvm.Cond.methodLink "TextEngine$Reader" (114 : Nat) ({ cls := "java/lang/String", name := "length", desc := "()I" } : Jvm.MethodName)), (Jvm.Cond.instanceMethod ({ cls := "java/lang/String", name := "length", desc := "()I" } : Jvm.MethodName)), (Jvm.Cond.selects "java/lang/String" ({ cls := "java/lang/String", name := "length", desc := "()I" } : Jvm.MethodName) ({ cls := "java/lang/String", name := "length", desc := "()I" } : Jvm.MethodName)), (Jvm.Cond.code ({ cls := "java/lang/String", name := "length", desc := "()I" } : Jvm.MethodName) prog_15_method_54_code (1 : Nat) (Option.some Jvm.ClassFile.FieldType.int)), (Jvm.Cond.methodLink "java/lang/String" (335 : Nat) ({ cls := "java/lang/String", name := "coder", desc := "()B" } : Jvm.MethodName)), (Jvm.Cond.instanceMethod ({ cls := "java/lang/String", name := "coder", desc := "()B" } : Jvm.MethodName)), (Jvm.Cond.selects "java/lang/String" ({ cls := "java/lang/String", name := "coder", desc := "()B" } : Jvm.MethodName) ({ cls := "java/lang/String", name := "coder", desc := "()B" } : Jvm.MethodName)), (Jvm.Cond.code ({ cls := "java/lang/String", name := "coder", desc := "()B" } : Jvm.MethodName) prog_15_method_152_code (1 : Nat) (Option.some Jvm.ClassFile.FieldType.byte)), (Jvm.Cond.fieldLink "java/lang/String" (38 : Nat) "java/lang/String" "COMPACT_STRINGS" "Z"), (Jvm.Cond.laysStatic "java/lang/String" "COMPACT_STRINGS" "Z"), (Jvm.Cond.methodLink "TextEngine$Reader" (120 : Nat) ({ cls := "TextEngine$Octets", name := "spells", desc := "(ILjava/lang/String;II)Z" } : Jvm.MethodName)), (Jvm.Cond.instanceMethod ({ cls := "TextEngine$Octets", name := "spells", desc := "(ILjava/lang/String;II)Z" } : Jvm.MethodName))]
def xq_18 : List Cond := [(Jvm.Cond.selects "TextEngine$Octets" ({ cls := "TextEngine$Octets", name := "spells", desc := "(ILjava/lang/String;II)Z" } : Jvm.MethodName) ({ cls := "TextEngine$Octets", name := "spells", desc := "(ILjava/lang/String;II)Z" } : Jvm.MethodName)), (Jvm.Cond.code ({ cls := "TextEngine$Octets", name := "spells", desc := "(ILjava/lang/String;II)Z" } : Jvm.MethodName) prog_7_method_7_code (6 : Nat) (Option.some Jvm.ClassFile.FieldType.boolean)), (Jvm.Cond.methodLink "TextEngine$Octets" (23 : Nat) ({ cls := "java/lang/String", name := "length", desc := "()I" } : Jvm.MethodName)), (Jvm.Cond.methodLink "TextEngine$Octets" (29 : Nat) ({ cls := "java/lang/String", name := "charAt", desc := "(I)C" } : Jvm.MethodName)), (Jvm.Cond.instanceMethod ({ cls := "java/lang/String", name := "charAt", desc := "(I)C" } : Jvm.MethodName)), (Jvm.Cond.selects "java/lang/String" ({ cls := "java/lang/String", name := "charAt", desc := "(I)C" } : Jvm.MethodName) ({ cls := "java/lang/String", name := "charAt", desc := "(I)C" } : Jvm.MethodName)), (Jvm.Cond.code ({ cls := "java/lang/String", name := "charAt", desc := "(I)C" } : Jvm.MethodName) prog_15_method_56_code (2 : Nat) (Option.some Jvm.ClassFile.FieldType.char)), (Jvm.Cond.methodLink "java/lang/String" (492 : Nat) ({ cls := "java/lang/String", name := "isLatin1", desc := "()Z" } : Jvm.MethodName)), (Jvm.Cond.instanceMethod ({ cls := "java/lang/String", name := "isLatin1", desc := "()Z" } : Jvm.MethodName)), (Jvm.Cond.selects "java/lang/String" ({ cls := "java/lang/String", name := "isLatin1", desc := "()Z" } : Jvm.MethodName) ({ cls := "java/lang/String", name := "isLatin1", desc := "()Z" } : Jvm.MethodName)), (Jvm.Cond.code ({ cls := "java/lang/String", name := "isLatin1", desc := "()Z" } : Jvm.MethodName) prog_15_method_154_code (1 : Nat) (Option.some Jvm.ClassFile.FieldType.boolean)), (Jvm.Cond.methodLink "java/lang/String" (495 : Nat) ({ cls := "java/lang/StringLatin1", name := "charAt", desc := "([BI)C" } : Jvm.MethodName)), (Jvm.Cond.static ({ cls := "java/lang/StringLatin1", name := "charAt", desc := "([BI)C" } : Jvm.MethodName)), (Jvm.Cond.code ({ cls := "java/lang/StringLatin1", name := "charAt", desc := "([BI)C" } : Jvm.MethodName) prog_16_method_2_code (2 : Nat) (Option.some Jvm.ClassFile.FieldType.char)), (Jvm.Cond.methodLink "java/lang/StringLatin1" (9 : Nat) ({ cls := "java/lang/String", name := "checkIndex", desc := "(II)V" } : Jvm.MethodName)), (Jvm.Cond.static ({ cls := "java/lang/String", name := "checkIndex", desc := "(II)V" } : Jvm.MethodName))]
set_option maxRecDepth 100000 in
theorem xqe_2 : tables_1_2 = xq_11 ++ (xq_12 ++ (xq_13 ++ (xq_14 ++ (xq_15 ++ (xq_16 ++ (xq_17 ++ (xq_18))))))) := rfl
theorem xqi_11 {w : Cond} (h : w ∈ xq_11) : w ∈ lw_tbl := (List.mem_append_right _ (List.mem_append_right _ (List.mem_append_left _ (by rw [xqe_2]; exact (List.mem_append_left _ h)))))
theorem xw11 (i : Nat) {w : Cond} (h : xq_11[i]? = some w) (g : goodWord w = true) : w ∈ xTB := List.mem_filter.mpr ⟨xqi_11 (List.mem_of_getElem? h), g⟩
theorem xqi_12 {w : Cond} (h : w ∈ xq_12) : w ∈ lw_tbl := (List.mem_append_right _ (List.mem_append_right _ (List.mem_append_left _ (by rw [xqe_2]; exact (List.mem_append_right _ (List.mem_append_left _ h))))))
theorem xw12 (i : Nat) {w : Cond} (h : xq_12[i]? = some w) (g : goodWord w = true) : w ∈ xTB := List.mem_filter.mpr ⟨xqi_12 (List.mem_of_getElem? h), g⟩
theorem xqi_13 {w : Cond} (h : w ∈ xq_13) : w ∈ lw_tbl := (List.mem_append_right _ (List.mem_append_right _ (List.mem_append_left _ (by rw [xqe_2]; exact (List.mem_append_right _ (List.mem_append_right _ (List.mem_append_left _ h)))))))
theorem xw13 (i : Nat) {w : Cond} (h : xq_13[i]? = some w) (g : goodWord w = true) : w ∈ xTB := List.mem_filter.mpr ⟨xqi_13 (List.mem_of_getElem? h), g⟩
theorem xqi_14 {w : Cond} (h : w ∈ xq_14) : w ∈ lw_tbl := (List.mem_append_right _ (List.mem_append_right _ (List.mem_append_left _ (by rw [xqe_2]; exact (List.mem_append_right _ (List.mem_append_right _ (List.mem_append_right _ (List.mem_append_left _ h))))))))
theorem xw14 (i : Nat) {w : Cond} (h : xq_14[i]? = some w) (g : goodWord w = true) : w ∈ xTB := List.mem_filter.mpr ⟨xqi_14 (List.mem_of_getElem? h), g⟩
theorem xqi_15 {w : Cond} (h : w ∈ xq_15) : w ∈ lw_tbl := (List.mem_append_right _ (List.mem_append_right _ (List.mem_append_left _ (by rw [xqe_2]; exact (List.mem_append_right _ (List.mem_append_right _ (List.mem_append_right _ (List.mem_append_right _ (List.mem_append_left _ h)))))))))
theorem xw15 (i : Nat) {w : Cond} (h : xq_15[i]? = some w) (g : goodWord w = true) : w ∈ xTB := List.mem_filter.mpr ⟨xqi_15 (List.mem_of_getElem? h), g⟩
theorem xqi_16 {w : Cond} (h : w ∈ xq_16) : w ∈ lw_tbl := (List.mem_append_right _ (List.mem_append_right _ (List.mem_append_left _ (by rw [xqe_2]; exact (List.mem_append_right _ (List.mem_append_right _ (List.mem_append_right _ (List.mem_append_right _ (List.mem_append_right _ (List.mem_append_left _ h))))))))))
theorem xw16 (i : Nat) {w : Cond} (h : xq_16[i]? = some w) (g : goodWord w = true) : w ∈ xTB := List.mem_filter.mpr ⟨xqi_16 (List.mem_of_getElem? h), g⟩
theorem xqi_17 {w : Cond} (h : w ∈ xq_17) : w ∈ lw_tbl := (List.mem_append_right _ (List.mem_append_right _ (List.mem_append_left _ (by rw [xqe_2]; exact (List.mem_append_right _ (List.mem_append_right _ (List.mem_append_right _ (List.mem_append_right _ (List.mem_append_right _ (List.mem_append_right _ (List.mem_append_left _ h)))))))))))
theorem xw17 (i : Nat) {w : Cond} (h : xq_17[i]? = some w) (g : goodWord w = true) : w ∈ xTB := List.mem_filter.mpr ⟨xqi_17 (List.mem_of_getElem? h), g⟩
theorem xqi_18 {w : Cond} (h : w ∈ xq_18) : w ∈ lw_tbl := (List.mem_append_right _ (List.mem_append_right _ (List.mem_append_left _ (by rw [xqe_2]; exact (List.mem_append_right _ (List.mem_append_right _ (List.mem_append_right _ (List.mem_append_right _ (List.mem_append_right _ (List.mem_append_right _ (List.mem_append_right _ h)))))))))))
theorem xw18 (i : Nat) {w : Cond} (h : xq_18[i]? = some w) (g : goodWord w = true) : w ∈ xTB := List.mem_filter.mpr ⟨xqi_18 (List.mem_of_getElem? h), g⟩
def xq_19 : List Cond := [(Jvm.Cond.code ({ cls := "java/lang/String", name := "checkIndex", desc := "(II)V" } : Jvm.MethodName) prog_15_method_155_code (2 : Nat) (Option.none : Option Jvm.ClassFile.FieldType)), (Jvm.Cond.fieldLink "java/lang/String" (1053 : Nat) "jdk/internal/util/Preconditions" "SIOOBE_FORMATTER" "Ljava/util/function/BiFunction;"), (Jvm.Cond.laysStatic "jdk/internal/util/Preconditions" "SIOOBE_FORMATTER" "Ljava/util/function/BiFunction;"), (Jvm.Cond.methodLink "java/lang/String" (1059 : Nat) ({ cls := "jdk/internal/util/Preconditions", name := "checkIndex", desc := "(IILjava/util/function/BiFunction;)I" } : Jvm.MethodName)), (Jvm.Cond.static ({ cls := "jdk/internal/util/Preconditions", name := "checkIndex", desc := "(IILjava/util/function/BiFunction;)I" } : Jvm.MethodName)), (Jvm.Cond.code ({ cls := "jdk/internal/util/Preconditions", name := "checkIndex", desc := "(IILjava/util/function/BiFunction;)I" } : Jvm.MethodName) prog_18_method_11_code (3 : Nat) (Option.some Jvm.ClassFile.FieldType.int)), (Jvm.Cond.methodLink "java/lang/String" (498 : Nat) ({ cls := "java/lang/StringUTF16", name := "charAt", desc := "([BI)C" } : Jvm.MethodName)), (Jvm.Cond.static ({ cls := "java/lang/StringUTF16", name := "charAt", desc := "([BI)C" } : Jvm.MethodName)), (Jvm.Cond.code ({ cls := "java/lang/StringUTF16", name := "charAt", desc := "([BI)C" } : Jvm.MethodName) prog_17_method_83_code (2 : Nat) (Option.some Jvm.ClassFile.FieldType.char)), (Jvm.Cond.methodLink "java/lang/StringUTF16" (67 : Nat) ({ cls := "java/lang/StringUTF16", name := "checkIndex", desc := "(I[B)V" } : Jvm.MethodName)), (Jvm.Cond.static ({ cls := "java/lang/StringUTF16", name := "checkIndex", desc := "(I[B)V" } : Jvm.MethodName)), (Jvm.Cond.code ({ cls := "java/lang/StringUTF16", name := "checkIndex", desc := "(I[B)V" } : Jvm.MethodName) prog_17_method_91_code (2 : Nat) (Option.none : Option Jvm.ClassFile.FieldType)), (Jvm.Cond.methodLink "java/lang/StringUTF16" (48 : Nat) ({ cls := "java/lang/StringUTF16", name := "length", desc := "([B)I" } : Jvm.MethodName)), (Jvm.Cond.static ({ cls := "java/lang/StringUTF16", name := "length", desc := "([B)I" } : Jvm.MethodName)), (Jvm.Cond.code ({ cls := "java/lang/StringUTF16", name := "length", desc := "([B)I" } : Jvm.MethodName) prog_17_method_6_code (1 : Nat) (Option.some Jvm.ClassFile.FieldType.int)), (Jvm.Cond.methodLink "java/lang/StringUTF16" (414 : Nat) ({ cls := "java/lang/String", name := "checkIndex", desc := "(II)V" } : Jvm.MethodName)), (Jvm.Cond.methodLink "java/lang/StringUTF16" (71 : Nat) ({ cls := "java/lang/StringUTF16", name := "getChar", desc := "([BI)C" } : Jvm.MethodName)), (Jvm.Cond.static ({ cls := "java/lang/StringUTF16", name := "getChar", desc := "([BI)C" } : Jvm.MethodName)), (Jvm.Cond.code ({ cls := "java/lang/StringUTF16", name := "getChar", desc := "([BI)C" } : Jvm.MethodName) prog_17_method_5_code (2 : Nat) (Option.some Jvm.ClassFile.FieldType.char)), (Jvm.Cond.fieldLink "java/lang/StringUTF16" (44 : Nat) "java/lang/StringUTF16" "$assertionsDisabled" "Z"), (Jvm.Cond.laysStatic "java/lang/StringUTF16" "$assertionsDisabled" "Z"), (Jvm.Cond.fieldLink "java/lang/StringUTF16" (59 : Nat) "java/lang/StringUTF16" "HI_BYTE_SHIFT" "I"), (Jvm.Cond.laysStatic "java/lang/StringUTF16" "HI_BYTE_SHIFT" "I"), (Jvm.Cond.fieldLink "java/lang/StringUTF16" (63 : Nat) "java/lang/StringUTF16" "LO_BYTE_SHIFT" "I"), (Jvm.Cond.laysStatic "java/lang/StringUTF16" "LO_BYTE_SHIFT" "I"), (Jvm.Cond.stringRef "TextEngine$Maker" (67 : Nat) "heads"), (Jvm.Cond.stringRef "TextEngine$Maker" (69 : Nat) "kv"), (Jvm.Cond.stringRef "TextEngine$Maker" (71 : Nat) "layers"), (Jvm.Cond.stringRef "TextEngine$Maker" (73 : Nat) "ffn"), (Jvm.Cond.stringRef "TextEngine$Maker" (75 : Nat) "ctx"), (Jvm.Cond.stringRef "TextEngine$Maker" (77 : Nat) "eps"), (Jvm.Cond.stringRef "TextEngine$Maker" (79 : Nat) "base")]
def xq_20 : List Cond := [(Jvm.Cond.stringRef "TextEngine$Maker" (81 : Nat) "tokens"), (Jvm.Cond.methodLink "TextEngine$Maker" (83 : Nat) ({ cls := "TextEngine$Maker", name := "isArrayOf", desc := "(II)Z" } : Jvm.MethodName)), (Jvm.Cond.privateMethod ({ cls := "TextEngine$Maker", name := "isArrayOf", desc := "(II)Z" } : Jvm.MethodName)), (Jvm.Cond.instanceMethod ({ cls := "TextEngine$Maker", name := "isArrayOf", desc := "(II)Z" } : Jvm.MethodName)), (Jvm.Cond.code ({ cls := "TextEngine$Maker", name := "isArrayOf", desc := "(II)Z" } : Jvm.MethodName) prog_4_method_5_code (3 : Nat) (Option.some Jvm.ClassFile.FieldType.boolean)), (Jvm.Cond.methodLink "TextEngine$Maker" (106 : Nat) ({ cls := "TextEngine$Octets", name := "at", desc := "(I)I" } : Jvm.MethodName)), (Jvm.Cond.stringRef "TextEngine$Maker" (86 : Nat) "merges"), (Jvm.Cond.methodLink "TextEngine$Maker" (88 : Nat) ({ cls := "TextEngine$Maker", name := "isArrayOfNumberArrays", desc := "(I)Z" } : Jvm.MethodName)), (Jvm.Cond.privateMethod ({ cls := "TextEngine$Maker", name := "isArrayOfNumberArrays", desc := "(I)Z" } : Jvm.MethodName)), (Jvm.Cond.instanceMethod ({ cls := "TextEngine$Maker", name := "isArrayOfNumberArrays", desc := "(I)Z" } : Jvm.MethodName)), (Jvm.Cond.code ({ cls := "TextEngine$Maker", name := "isArrayOfNumberArrays", desc := "(I)Z" } : Jvm.MethodName) prog_4_method_6_code (5 : Nat) (Option.some Jvm.ClassFile.FieldType.boolean)), (Jvm.Cond.stringRef "TextEngine$Maker" (92 : Nat) "stop"), (Jvm.Cond.stringRef "TextEngine$Maker" (94 : Nat) "align"), (Jvm.Cond.methodLink "TextEngine$Maker" (27 : Nat) ({ cls := "TextEngine$Maker", name := "takeNumbers", desc := "(LTextEngine$Model;)Z" } : Jvm.MethodName)), (Jvm.Cond.privateMethod ({ cls := "TextEngine$Maker", name := "takeNumbers", desc := "(LTextEngine$Model;)Z" } : Jvm.MethodName)), (Jvm.Cond.instanceMethod ({ cls := "TextEngine$Maker", name := "takeNumbers", desc := "(LTextEngine$Model;)Z" } : Jvm.MethodName)), (Jvm.Cond.code ({ cls := "TextEngine$Maker", name := "takeNumbers", desc := "(LTextEngine$Model;)Z" } : Jvm.MethodName) prog_4_method_7_code (2 : Nat) (Option.some Jvm.ClassFile.FieldType.boolean)), (Jvm.Cond.methodLink "TextEngine$Maker" (117 : Nat) ({ cls := "TextEngine$Maker", name := "takeNumber", desc := "(LTextEngine$Model;III)Z" } : Jvm.MethodName)), (Jvm.Cond.privateMethod ({ cls := "TextEngine$Maker", name := "takeNumber", desc := "(LTextEngine$Model;III)Z" } : Jvm.MethodName)), (Jvm.Cond.instanceMethod ({ cls := "TextEngine$Maker", name := "takeNumber", desc := "(LTextEngine$Model;III)Z" } : Jvm.MethodName)), (Jvm.Cond.code ({ cls := "TextEngine$Maker", name := "takeNumber", desc := "(LTextEngine$Model;III)Z" } : Jvm.MethodName) prog_4_method_9_code (7 : Nat) (Option.some Jvm.ClassFile.FieldType.boolean)), (Jvm.Cond.methodLink "TextEngine$Maker" (133 : Nat) ({ cls := "TextEngine$Octets", name := "number", desc := "(II)J" } : Jvm.MethodName)), (Jvm.Cond.methodLink "TextEngine$Maker" (121 : Nat) ({ cls := "TextEngine$Maker", name := "takeHeads", desc := "(LTextEngine$Model;)Z" } : Jvm.MethodName)), (Jvm.Cond.privateMethod ({ cls := "TextEngine$Maker", name := "takeHeads", desc := "(LTextEngine$Model;)Z" } : Jvm.MethodName)), (Jvm.Cond.instanceMethod ({ cls := "TextEngine$Maker", name := "takeHeads", desc := "(LTextEngine$Model;)Z" } : Jvm.MethodName)), (Jvm.Cond.code ({ cls := "TextEngine$Maker", name := "takeHeads", desc := "(LTextEngine$Model;)Z" } : Jvm.MethodName) prog_4_method_8_code (2 : Nat) (Option.some Jvm.ClassFile.FieldType.boolean)), (Jvm.Cond.methodLink "TextEngine$Maker" (124 : Nat) ({ cls := "TextEngine$Maker", name := "takeAlign", desc := "(LTextEngine$Model;)Z" } : Jvm.MethodName)), (Jvm.Cond.privateMethod ({ cls := "TextEngine$Maker", name := "takeAlign", desc := "(LTextEngine$Model;)Z" } : Jvm.MethodName)), (Jvm.Cond.instanceMethod ({ cls := "TextEngine$Maker", name := "takeAlign", desc := "(LTextEngine$Model;)Z" } : Jvm.MethodName)), (Jvm.Cond.code ({ cls := "TextEngine$Maker", name := "takeAlign", desc := "(LTextEngine$Model;)Z" } : Jvm.MethodName) prog_4_method_10_code (2 : Nat) (Option.some Jvm.ClassFile.FieldType.boolean)), (Jvm.Cond.methodLink "TextEngine$Maker" (31 : Nat) ({ cls := "TextEngine$Maker", name := "takeReals", desc := "(LTextEngine$Model;)Z" } : Jvm.MethodName)), (Jvm.Cond.privateMethod ({ cls := "TextEngine$Maker", name := "takeReals", desc := "(LTextEngine$Model;)Z" } : Jvm.MethodName))]
def xq_21 : List Cond := [(Jvm.Cond.instanceMethod ({ cls := "TextEngine$Maker", name := "takeReals", desc := "(LTextEngine$Model;)Z" } : Jvm.MethodName)), (Jvm.Cond.code ({ cls := "TextEngine$Maker", name := "takeReals", desc := "(LTextEngine$Model;)Z" } : Jvm.MethodName) prog_4_method_11_code (4 : Nat) (Option.some Jvm.ClassFile.FieldType.boolean)), (Jvm.Cond.methodLink "TextEngine$Maker" (137 : Nat) ({ cls := "TextEngine$Maker", name := "isReal", desc := "(I)Z" } : Jvm.MethodName)), (Jvm.Cond.static ({ cls := "TextEngine$Maker", name := "isReal", desc := "(I)Z" } : Jvm.MethodName)), (Jvm.Cond.code ({ cls := "TextEngine$Maker", name := "isReal", desc := "(I)Z" } : Jvm.MethodName) prog_4_method_26_code (1 : Nat) (Option.some Jvm.ClassFile.FieldType.boolean)), (Jvm.Cond.methodLink "TextEngine$Maker" (140 : Nat) ({ cls := "TextEngine$Maker", name := "realOf", desc := "(I)F" } : Jvm.MethodName)), (Jvm.Cond.static ({ cls := "TextEngine$Maker", name := "realOf", desc := "(I)F" } : Jvm.MethodName)), (Jvm.Cond.code ({ cls := "TextEngine$Maker", name := "realOf", desc := "(I)F" } : Jvm.MethodName) prog_4_method_28_code (7 : Nat) (Option.some Jvm.ClassFile.FieldType.float)), (Jvm.Cond.constantLong "TextEngine$Maker" (254 : Nat) (1024 : Int64)), (Jvm.Cond.constantFloat "TextEngine$Maker" (256 : Nat) (1266679808 : UInt32)), (Jvm.Cond.constantFloat "TextEngine$Maker" (149 : Nat) (981467136 : UInt32)), (Jvm.Cond.constantFloat "TextEngine$Maker" (150 : Nat) (1098907648 : UInt32)), (Jvm.Cond.methodLink "TextEngine$Maker" (34 : Nat) ({ cls := "TextEngine$Maker", name := "takeWords", desc := "(LTextEngine$Model;)Z" } : Jvm.MethodName)), (Jvm.Cond.privateMethod ({ cls := "TextEngine$Maker", name := "takeWords", desc := "(LTextEngine$Model;)Z" } : Jvm.MethodName)), (Jvm.Cond.instanceMethod ({ cls := "TextEngine$Maker", name := "takeWords", desc := "(LTextEngine$Model;)Z" } : Jvm.MethodName)), (Jvm.Cond.code ({ cls := "TextEngine$Maker", name := "takeWords", desc := "(LTextEngine$Model;)Z" } : Jvm.MethodName) prog_4_method_12_code (2 : Nat) (Option.some Jvm.ClassFile.FieldType.boolean)), (Jvm.Cond.methodLink "TextEngine$Maker" (151 : Nat) ({ cls := "TextEngine$Maker", name := "takeTokens", desc := "(LTextEngine$Model;)Z" } : Jvm.MethodName)), (Jvm.Cond.privateMethod ({ cls := "TextEngine$Maker", name := "takeTokens", desc := "(LTextEngine$Model;)Z" } : Jvm.MethodName)), (Jvm.Cond.instanceMethod ({ cls := "TextEngine$Maker", name := "takeTokens", desc := "(LTextEngine$Model;)Z" } : Jvm.MethodName)), (Jvm.Cond.code ({ cls := "TextEngine$Maker", name := "takeTokens", desc := "(LTextEngine$Model;)Z" } : Jvm.MethodName) prog_4_method_13_code (6 : Nat) (Option.some Jvm.ClassFile.FieldType.boolean)), (Jvm.Cond.methodLink "TextEngine$Maker" (166 : Nat) ({ cls := "TextEngine$Words", name := "addToken", desc := "(JI)Z" } : Jvm.MethodName)), (Jvm.Cond.instanceMethod ({ cls := "TextEngine$Words", name := "addToken", desc := "(JI)Z" } : Jvm.MethodName)), (Jvm.Cond.selects "TextEngine$Words" ({ cls := "TextEngine$Words", name := "addToken", desc := "(JI)Z" } : Jvm.MethodName) ({ cls := "TextEngine$Words", name := "addToken", desc := "(JI)Z" } : Jvm.MethodName)), (Jvm.Cond.code ({ cls := "TextEngine$Words", name := "addToken", desc := "(JI)Z" } : Jvm.MethodName) prog_11_method_6_code (4 : Nat) (Option.some Jvm.ClassFile.FieldType.boolean)), (Jvm.Cond.methodLink "TextEngine$Words" (38 : Nat) ({ cls := "TextEngine$Words", name := "find", desc := "(JI)I" } : Jvm.MethodName)), (Jvm.Cond.instanceMethod ({ cls := "TextEngine$Words", name := "find", desc := "(JI)I" } : Jvm.MethodName)), (Jvm.Cond.selects "TextEngine$Words" ({ cls := "TextEngine$Words", name := "find", desc := "(JI)I" } : Jvm.MethodName) ({ cls := "TextEngine$Words", name := "find", desc := "(JI)I" } : Jvm.MethodName)), (Jvm.Cond.code ({ cls := "TextEngine$Words", name := "find", desc := "(JI)I" } : Jvm.MethodName) prog_11_method_5_code (5 : Nat) (Option.some Jvm.ClassFile.FieldType.int)), (Jvm.Cond.methodLink "TextEngine$Words" (34 : Nat) ({ cls := "TextEngine$Words", name := "tokenOf", desc := "(JI)J" } : Jvm.MethodName)), (Jvm.Cond.static ({ cls := "TextEngine$Words", name := "tokenOf", desc := "(JI)J" } : Jvm.MethodName)), (Jvm.Cond.code ({ cls := "TextEngine$Words", name := "tokenOf", desc := "(JI)J" } : Jvm.MethodName) prog_11_method_2_code (3 : Nat) (Option.some Jvm.ClassFile.FieldType.long)), (Jvm.Cond.methodLink "TextEngine$Maker" (154 : Nat) ({ cls := "TextEngine$Maker", name := "takeMerges", desc := "(LTextEngine$Model;)Z" } : Jvm.MethodName))]
def xq_22 : List Cond := [(Jvm.Cond.privateMethod ({ cls := "TextEngine$Maker", name := "takeMerges", desc := "(LTextEngine$Model;)Z" } : Jvm.MethodName)), (Jvm.Cond.instanceMethod ({ cls := "TextEngine$Maker", name := "takeMerges", desc := "(LTextEngine$Model;)Z" } : Jvm.MethodName)), (Jvm.Cond.code ({ cls := "TextEngine$Maker", name := "takeMerges", desc := "(LTextEngine$Model;)Z" } : Jvm.MethodName) prog_4_method_14_code (5 : Nat) (Option.some Jvm.ClassFile.FieldType.boolean)), (Jvm.Cond.methodLink "TextEngine$Maker" (172 : Nat) ({ cls := "TextEngine$Words", name := "addMerge", desc := "(JJ)Z" } : Jvm.MethodName)), (Jvm.Cond.instanceMethod ({ cls := "TextEngine$Words", name := "addMerge", desc := "(JJ)Z" } : Jvm.MethodName)), (Jvm.Cond.selects "TextEngine$Words" ({ cls := "TextEngine$Words", name := "addMerge", desc := "(JJ)Z" } : Jvm.MethodName) ({ cls := "TextEngine$Words", name := "addMerge", desc := "(JJ)Z" } : Jvm.MethodName)), (Jvm.Cond.code ({ cls := "TextEngine$Words", name := "addMerge", desc := "(JJ)Z" } : Jvm.MethodName) prog_11_method_7_code (6 : Nat) (Option.some Jvm.ClassFile.FieldType.boolean)), (Jvm.Cond.methodLink "TextEngine$Words" (42 : Nat) ({ cls := "TextEngine$Words", name := "join", desc := "(II)I" } : Jvm.MethodName)), (Jvm.Cond.privateMethod ({ cls := "TextEngine$Words", name := "join", desc := "(II)I" } : Jvm.MethodName)), (Jvm.Cond.instanceMethod ({ cls := "TextEngine$Words", name := "join", desc := "(II)I" } : Jvm.MethodName)), (Jvm.Cond.code ({ cls := "TextEngine$Words", name := "join", desc := "(II)I" } : Jvm.MethodName) prog_11_method_8_code (4 : Nat) (Option.some Jvm.ClassFile.FieldType.int)), (Jvm.Cond.methodLink "TextEngine$Words" (46 : Nat) ({ cls := "TextEngine$Words", name := "lengthOf", desc := "(I)I" } : Jvm.MethodName)), (Jvm.Cond.privateMethod ({ cls := "TextEngine$Words", name := "lengthOf", desc := "(I)I" } : Jvm.MethodName)), (Jvm.Cond.instanceMethod ({ cls := "TextEngine$Words", name := "lengthOf", desc := "(I)I" } : Jvm.MethodName)), (Jvm.Cond.code ({ cls := "TextEngine$Words", name := "lengthOf", desc := "(I)I" } : Jvm.MethodName) prog_11_method_3_code (2 : Nat) (Option.some Jvm.ClassFile.FieldType.int)), (Jvm.Cond.methodLink "TextEngine$Words" (50 : Nat) ({ cls := "TextEngine$Words", name := "octetsOf", desc := "(I)J" } : Jvm.MethodName)), (Jvm.Cond.privateMethod ({ cls := "TextEngine$Words", name := "octetsOf", desc := "(I)J" } : Jvm.MethodName)), (Jvm.Cond.instanceMethod ({ cls := "TextEngine$Words", name := "octetsOf", desc := "(I)J" } : Jvm.MethodName)), (Jvm.Cond.code ({ cls := "TextEngine$Words", name := "octetsOf", desc := "(I)J" } : Jvm.MethodName) prog_11_method_4_code (2 : Nat) (Option.some Jvm.ClassFile.FieldType.long)), (Jvm.Cond.constantLong "TextEngine$Words" (32 : Nat) (4294967295 : Int64)), (Jvm.Cond.methodLink "TextEngine$Maker" (37 : Nat) ({ cls := "TextEngine$Maker", name := "takeShapes", desc := "(LTextEngine$Model;)Z" } : Jvm.MethodName)), (Jvm.Cond.privateMethod ({ cls := "TextEngine$Maker", name := "takeShapes", desc := "(LTextEngine$Model;)Z" } : Jvm.MethodName)), (Jvm.Cond.instanceMethod ({ cls := "TextEngine$Maker", name := "takeShapes", desc := "(LTextEngine$Model;)Z" } : Jvm.MethodName)), (Jvm.Cond.code ({ cls := "TextEngine$Maker", name := "takeShapes", desc := "(LTextEngine$Model;)Z" } : Jvm.MethodName) prog_4_method_15_code (9 : Nat) (Option.some Jvm.ClassFile.FieldType.boolean)), (Jvm.Cond.stringRef "TextEngine$Maker" (187 : Nat) "embed"), (Jvm.Cond.methodLink "TextEngine$Maker" (189 : Nat) ({ cls := "TextEngine$Reader", name := "tensorOf", desc := "(Ljava/lang/String;II)I" } : Jvm.MethodName)), (Jvm.Cond.instanceMethod ({ cls := "TextEngine$Reader", name := "tensorOf", desc := "(Ljava/lang/String;II)I" } : Jvm.MethodName)), (Jvm.Cond.selects "TextEngine$Reader" ({ cls := "TextEngine$Reader", name := "tensorOf", desc := "(Ljava/lang/String;II)I" } : Jvm.MethodName) ({ cls := "TextEngine$Reader", name := "tensorOf", desc := "(Ljava/lang/String;II)I" } : Jvm.MethodName)), (Jvm.Cond.code ({ cls := "TextEngine$Reader", name := "tensorOf", desc := "(Ljava/lang/String;II)I" } : Jvm.MethodName) prog_8_method_15_code (5 : Nat) (Option.some Jvm.ClassFile.FieldType.int)), (Jvm.Cond.methodLink "TextEngine$Maker" (193 : Nat) ({ cls := "TextEngine$Maker", name := "need", desc := "(LTextEngine$Tensors;IIII)Z" } : Jvm.MethodName)), (Jvm.Cond.static ({ cls := "TextEngine$Maker", name := "need", desc := "(LTextEngine$Tensors;IIII)Z" } : Jvm.MethodName)), (Jvm.Cond.code ({ cls := "TextEngine$Maker", name := "need", desc := "(LTextEngine$Tensors;IIII)Z" } : Jvm.MethodName) prog_4_method_16_code (5 : Nat) (Option.some Jvm.ClassFile.FieldType.boolean))]
def xq_23 : List Cond := [(Jvm.Cond.stringRef "TextEngine$Maker" (197 : Nat) "norm"), (Jvm.Cond.stringRef "TextEngine$Maker" (199 : Nat) "out"), (Jvm.Cond.stringRef "TextEngine$Maker" (201 : Nat) "a0q0k0v0o0f0g0u0d0a1q1k1v1o1f1g1u1d1"), (Jvm.Cond.methodLink "TextEngine$Maker" (203 : Nat) ({ cls := "TextEngine$Maker", name := "rowsOf", desc := "(ILTextEngine$Model;)I" } : Jvm.MethodName)), (Jvm.Cond.static ({ cls := "TextEngine$Maker", name := "rowsOf", desc := "(ILTextEngine$Model;)I" } : Jvm.MethodName)), (Jvm.Cond.code ({ cls := "TextEngine$Maker", name := "rowsOf", desc := "(ILTextEngine$Model;)I" } : Jvm.MethodName) prog_4_method_17_code (2 : Nat) (Option.some Jvm.ClassFile.FieldType.int)), (Jvm.Cond.methodLink "TextEngine$Maker" (45 : Nat) ({ cls := "TextEngine$Maker", name := "dataBegin", desc := "(I)I" } : Jvm.MethodName)), (Jvm.Cond.privateMethod ({ cls := "TextEngine$Maker", name := "dataBegin", desc := "(I)I" } : Jvm.MethodName)), (Jvm.Cond.instanceMethod ({ cls := "TextEngine$Maker", name := "dataBegin", desc := "(I)I" } : Jvm.MethodName)), (Jvm.Cond.code ({ cls := "TextEngine$Maker", name := "dataBegin", desc := "(I)I" } : Jvm.MethodName) prog_4_method_18_code (2 : Nat) (Option.some Jvm.ClassFile.FieldType.int)), (Jvm.Cond.methodLink "TextEngine$Maker" (49 : Nat) ({ cls := "TextEngine$Maker", name := "areWellPlaced", desc := "(II)Z" } : Jvm.MethodName)), (Jvm.Cond.privateMethod ({ cls := "TextEngine$Maker", name := "areWellPlaced", desc := "(II)Z" } : Jvm.MethodName)), (Jvm.Cond.instanceMethod ({ cls := "TextEngine$Maker", name := "areWellPlaced", desc := "(II)Z" } : Jvm.MethodName)), (Jvm.Cond.code ({ cls := "TextEngine$Maker", name := "areWellPlaced", desc := "(II)Z" } : Jvm.MethodName) prog_4_method_19_code (4 : Nat) (Option.some Jvm.ClassFile.FieldType.boolean)), (Jvm.Cond.methodLink "TextEngine$Maker" (216 : Nat) ({ cls := "TextEngine$Reader", name := "dataSize", desc := "(I)I" } : Jvm.MethodName)), (Jvm.Cond.instanceMethod ({ cls := "TextEngine$Reader", name := "dataSize", desc := "(I)I" } : Jvm.MethodName)), (Jvm.Cond.selects "TextEngine$Reader" ({ cls := "TextEngine$Reader", name := "dataSize", desc := "(I)I" } : Jvm.MethodName) ({ cls := "TextEngine$Reader", name := "dataSize", desc := "(I)I" } : Jvm.MethodName)), (Jvm.Cond.code ({ cls := "TextEngine$Reader", name := "dataSize", desc := "(I)I" } : Jvm.MethodName) prog_8_method_13_code (3 : Nat) (Option.some Jvm.ClassFile.FieldType.int)), (Jvm.Cond.methodLink "TextEngine$Maker" (222 : Nat) ({ cls := "TextEngine$Maker", name := "overlapsEarlier", desc := "(I)Z" } : Jvm.MethodName)), (Jvm.Cond.privateMethod ({ cls := "TextEngine$Maker", name := "overlapsEarlier", desc := "(I)Z" } : Jvm.MethodName)), (Jvm.Cond.instanceMethod ({ cls := "TextEngine$Maker", name := "overlapsEarlier", desc := "(I)Z" } : Jvm.MethodName)), (Jvm.Cond.code ({ cls := "TextEngine$Maker", name := "overlapsEarlier", desc := "(I)Z" } : Jvm.MethodName) prog_4_method_20_code (6 : Nat) (Option.some Jvm.ClassFile.FieldType.boolean)), (Jvm.Cond.methodLink "TextEngine$Maker" (57 : Nat) ({ cls := "TextEngine$Maker", name := "takeWeights", desc := "(LTextEngine$Tensors;I)Z" } : Jvm.MethodName)), (Jvm.Cond.privateMethod ({ cls := "TextEngine$Maker", name := "takeWeights", desc := "(LTextEngine$Tensors;I)Z" } : Jvm.MethodName)), (Jvm.Cond.instanceMethod ({ cls := "TextEngine$Maker", name := "takeWeights", desc := "(LTextEngine$Tensors;I)Z" } : Jvm.MethodName)), (Jvm.Cond.code ({ cls := "TextEngine$Maker", name := "takeWeights", desc := "(LTextEngine$Tensors;I)Z" } : Jvm.MethodName) prog_4_method_21_code (5 : Nat) (Option.some Jvm.ClassFile.FieldType.boolean)), (Jvm.Cond.methodLink "TextEngine$Maker" (228 : Nat) ({ cls := "TextEngine$Maker", name := "unpack", desc := "(LTextEngine$Tensors;II)Z" } : Jvm.MethodName)), (Jvm.Cond.privateMethod ({ cls := "TextEngine$Maker", name := "unpack", desc := "(LTextEngine$Tensors;II)Z" } : Jvm.MethodName)), (Jvm.Cond.instanceMethod ({ cls := "TextEngine$Maker", name := "unpack", desc := "(LTextEngine$Tensors;II)Z" } : Jvm.MethodName)), (Jvm.Cond.code ({ cls := "TextEngine$Maker", name := "unpack", desc := "(LTextEngine$Tensors;II)Z" } : Jvm.MethodName) prog_4_method_22_code (10 : Nat) (Option.some Jvm.ClassFile.FieldType.boolean)), (Jvm.Cond.methodLink "TextEngine$Maker" (239 : Nat) ({ cls := "TextEngine$Maker", name := "unpackHalves", desc := "([FIII)Z" } : Jvm.MethodName)), (Jvm.Cond.privateMethod ({ cls := "TextEngine$Maker", name := "unpackHalves", desc := "([FIII)Z" } : Jvm.MethodName))]
def xq_24 : List Cond := [(Jvm.Cond.instanceMethod ({ cls := "TextEngine$Maker", name := "unpackHalves", desc := "([FIII)Z" } : Jvm.MethodName)), (Jvm.Cond.code ({ cls := "TextEngine$Maker", name := "unpackHalves", desc := "([FIII)Z" } : Jvm.MethodName) prog_4_method_23_code (7 : Nat) (Option.some Jvm.ClassFile.FieldType.boolean)), (Jvm.Cond.methodLink "TextEngine$Maker" (243 : Nat) ({ cls := "TextEngine$Maker", name := "isWithin", desc := "(IF)Z" } : Jvm.MethodName)), (Jvm.Cond.static ({ cls := "TextEngine$Maker", name := "isWithin", desc := "(IF)Z" } : Jvm.MethodName)), (Jvm.Cond.code ({ cls := "TextEngine$Maker", name := "isWithin", desc := "(IF)Z" } : Jvm.MethodName) prog_4_method_27_code (3 : Nat) (Option.some Jvm.ClassFile.FieldType.boolean)), (Jvm.Cond.methodLink "TextEngine$Maker" (247 : Nat) ({ cls := "TextEngine$Maker", name := "unpackFours", desc := "([FIFI)V" } : Jvm.MethodName)), (Jvm.Cond.privateMethod ({ cls := "TextEngine$Maker", name := "unpackFours", desc := "([FIFI)V" } : Jvm.MethodName)), (Jvm.Cond.instanceMethod ({ cls := "TextEngine$Maker", name := "unpackFours", desc := "([FIFI)V" } : Jvm.MethodName)), (Jvm.Cond.code ({ cls := "TextEngine$Maker", name := "unpackFours", desc := "([FIFI)V" } : Jvm.MethodName) prog_4_method_24_code (7 : Nat) (Option.none : Option Jvm.ClassFile.FieldType)), (Jvm.Cond.methodLink "TextEngine$Maker" (251 : Nat) ({ cls := "TextEngine$Maker", name := "unpackEights", desc := "([FIFI)V" } : Jvm.MethodName)), (Jvm.Cond.privateMethod ({ cls := "TextEngine$Maker", name := "unpackEights", desc := "([FIFI)V" } : Jvm.MethodName)), (Jvm.Cond.instanceMethod ({ cls := "TextEngine$Maker", name := "unpackEights", desc := "([FIFI)V" } : Jvm.MethodName)), (Jvm.Cond.code ({ cls := "TextEngine$Maker", name := "unpackEights", desc := "([FIFI)V" } : Jvm.MethodName) prog_4_method_25_code (6 : Nat) (Option.none : Option Jvm.ClassFile.FieldType)), (Jvm.Cond.methodLink "TextEngine" (97 : Nat) ({ cls := "TextEngine", name := "takeSpare", desc := "()V" } : Jvm.MethodName)), (Jvm.Cond.privateMethod ({ cls := "TextEngine", name := "takeSpare", desc := "()V" } : Jvm.MethodName)), (Jvm.Cond.instanceMethod ({ cls := "TextEngine", name := "takeSpare", desc := "()V" } : Jvm.MethodName)), (Jvm.Cond.code ({ cls := "TextEngine", name := "takeSpare", desc := "()V" } : Jvm.MethodName) prog_1_method_6_code (2 : Nat) (Option.none : Option Jvm.ClassFile.FieldType)), (Jvm.Cond.methodLink "TextEngine" (100 : Nat) ({ cls := "TextEngine", name := "forget", desc := "()V" } : Jvm.MethodName)), (Jvm.Cond.privateMethod ({ cls := "TextEngine", name := "forget", desc := "()V" } : Jvm.MethodName)), (Jvm.Cond.instanceMethod ({ cls := "TextEngine", name := "forget", desc := "()V" } : Jvm.MethodName)), (Jvm.Cond.code ({ cls := "TextEngine", name := "forget", desc := "()V" } : Jvm.MethodName) prog_1_method_7_code (1 : Nat) (Option.none : Option Jvm.ClassFile.FieldType)), (Jvm.Cond.methodLink "TextEngine" (103 : Nat) ({ cls := "TextEngine$Network", name := "forgetSteps", desc := "()V" } : Jvm.MethodName)), (Jvm.Cond.instanceMethod ({ cls := "TextEngine$Network", name := "forgetSteps", desc := "()V" } : Jvm.MethodName)), (Jvm.Cond.selects "TextEngine$Network" ({ cls := "TextEngine$Network", name := "forgetSteps", desc := "()V" } : Jvm.MethodName) ({ cls := "TextEngine$Network", name := "forgetSteps", desc := "()V" } : Jvm.MethodName)), (Jvm.Cond.code ({ cls := "TextEngine$Network", name := "forgetSteps", desc := "()V" } : Jvm.MethodName) prog_6_method_2_code (1 : Nat) (Option.none : Option Jvm.ClassFile.FieldType)), (Jvm.Cond.methodLink "TextEngineLaw" (34 : Nat) ({ cls := "TextEngine", name := "place", desc := "()I" } : Jvm.MethodName)), (Jvm.Cond.instanceMethod ({ cls := "TextEngine", name := "place", desc := "()I" } : Jvm.MethodName)), (Jvm.Cond.selects "TextEngine" ({ cls := "TextEngine", name := "place", desc := "()I" } : Jvm.MethodName) ({ cls := "TextEngine", name := "place", desc := "()I" } : Jvm.MethodName)), (Jvm.Cond.code ({ cls := "TextEngine", name := "place", desc := "()I" } : Jvm.MethodName) prog_1_method_8_code (1 : Nat) (Option.some Jvm.ClassFile.FieldType.int)), (Jvm.Cond.methodLink "TextEngineLaw" (38 : Nat) ({ cls := "TextEngine", name := "fact", desc := "(I)I" } : Jvm.MethodName)), (Jvm.Cond.instanceMethod ({ cls := "TextEngine", name := "fact", desc := "(I)I" } : Jvm.MethodName)), (Jvm.Cond.selects "TextEngine" ({ cls := "TextEngine", name := "fact", desc := "(I)I" } : Jvm.MethodName) ({ cls := "TextEngine", name := "fact", desc := "(I)I" } : Jvm.MethodName))]
def xq_25 : List Cond := [(Jvm.Cond.code ({ cls := "TextEngine", name := "fact", desc := "(I)I" } : Jvm.MethodName) prog_1_method_9_code (2 : Nat) (Option.some Jvm.ClassFile.FieldType.int)), (Jvm.Cond.methodLink "TextEngineLaw" (43 : Nat) ({ cls := "TextEngine", name := "weight", desc := "(III)I" } : Jvm.MethodName)), (Jvm.Cond.instanceMethod ({ cls := "TextEngine", name := "weight", desc := "(III)I" } : Jvm.MethodName)), (Jvm.Cond.selects "TextEngine" ({ cls := "TextEngine", name := "weight", desc := "(III)I" } : Jvm.MethodName) ({ cls := "TextEngine", name := "weight", desc := "(III)I" } : Jvm.MethodName)), (Jvm.Cond.code ({ cls := "TextEngine", name := "weight", desc := "(III)I" } : Jvm.MethodName) prog_1_method_10_code (4 : Nat) (Option.some Jvm.ClassFile.FieldType.int)), (Jvm.Cond.methodLink "TextEngine" (123 : Nat) ({ cls := "TextEngine$Tensors", name := "has", desc := "(III)Z" } : Jvm.MethodName)), (Jvm.Cond.instanceMethod ({ cls := "TextEngine$Tensors", name := "has", desc := "(III)Z" } : Jvm.MethodName)), (Jvm.Cond.selects "TextEngine$Tensors" ({ cls := "TextEngine$Tensors", name := "has", desc := "(III)Z" } : Jvm.MethodName) ({ cls := "TextEngine$Tensors", name := "has", desc := "(III)Z" } : Jvm.MethodName)), (Jvm.Cond.code ({ cls := "TextEngine$Tensors", name := "has", desc := "(III)Z" } : Jvm.MethodName) prog_10_method_2_code (4 : Nat) (Option.some Jvm.ClassFile.FieldType.boolean)), (Jvm.Cond.methodLink "TextEngine" (129 : Nat) ({ cls := "TextEngine$Tensors", name := "at", desc := "(III)F" } : Jvm.MethodName)), (Jvm.Cond.instanceMethod ({ cls := "TextEngine$Tensors", name := "at", desc := "(III)F" } : Jvm.MethodName)), (Jvm.Cond.selects "TextEngine$Tensors" ({ cls := "TextEngine$Tensors", name := "at", desc := "(III)F" } : Jvm.MethodName) ({ cls := "TextEngine$Tensors", name := "at", desc := "(III)F" } : Jvm.MethodName)), (Jvm.Cond.code ({ cls := "TextEngine$Tensors", name := "at", desc := "(III)F" } : Jvm.MethodName) prog_10_method_3_code (4 : Nat) (Option.some Jvm.ClassFile.FieldType.float)), (Jvm.Cond.constantFloat "TextEngine" (133 : Nat) (1199570944 : UInt32)), (Jvm.Cond.methodLink "TextEngineLaw" (48 : Nat) ({ cls := "TextEngine", name := "text", desc := "(JI)I" } : Jvm.MethodName)), (Jvm.Cond.instanceMethod ({ cls := "TextEngine", name := "text", desc := "(JI)I" } : Jvm.MethodName)), (Jvm.Cond.selects "TextEngine" ({ cls := "TextEngine", name := "text", desc := "(JI)I" } : Jvm.MethodName) ({ cls := "TextEngine", name := "text", desc := "(JI)I" } : Jvm.MethodName)), (Jvm.Cond.code ({ cls := "TextEngine", name := "text", desc := "(JI)I" } : Jvm.MethodName) prog_1_method_11_code (4 : Nat) (Option.some Jvm.ClassFile.FieldType.int)), (Jvm.Cond.methodLink "TextEngineLaw" (52 : Nat) ({ cls := "TextEngine", name := "encode", desc := "()I" } : Jvm.MethodName)), (Jvm.Cond.instanceMethod ({ cls := "TextEngine", name := "encode", desc := "()I" } : Jvm.MethodName)), (Jvm.Cond.selects "TextEngine" ({ cls := "TextEngine", name := "encode", desc := "()I" } : Jvm.MethodName) ({ cls := "TextEngine", name := "encode", desc := "()I" } : Jvm.MethodName)), (Jvm.Cond.code ({ cls := "TextEngine", name := "encode", desc := "()I" } : Jvm.MethodName) prog_1_method_12_code (1 : Nat) (Option.some Jvm.ClassFile.FieldType.int)), (Jvm.Cond.methodLink "TextEngine" (138 : Nat) ({ cls := "TextEngine$Encoder", name := "turnIntoTokens", desc := "(LTextEngine$Octets;LTextEngine$Words;)V" } : Jvm.MethodName)), (Jvm.Cond.instanceMethod ({ cls := "TextEngine$Encoder", name := "turnIntoTokens", desc := "(LTextEngine$Octets;LTextEngine$Words;)V" } : Jvm.MethodName)), (Jvm.Cond.selects "TextEngine$Encoder" ({ cls := "TextEngine$Encoder", name := "turnIntoTokens", desc := "(LTextEngine$Octets;LTextEngine$Words;)V" } : Jvm.MethodName) ({ cls := "TextEngine$Encoder", name := "turnIntoTokens", desc := "(LTextEngine$Octets;LTextEngine$Words;)V" } : Jvm.MethodName)), (Jvm.Cond.code ({ cls := "TextEngine$Encoder", name := "turnIntoTokens", desc := "(LTextEngine$Octets;LTextEngine$Words;)V" } : Jvm.MethodName) prog_3_method_2_code (5 : Nat) (Option.none : Option Jvm.ClassFile.FieldType)), (Jvm.Cond.methodLink "TextEngine$Encoder" (24 : Nat) ({ cls := "TextEngine$Octets", name := "at", desc := "(I)I" } : Jvm.MethodName)), (Jvm.Cond.methodLink "TextEngine$Encoder" (28 : Nat) ({ cls := "TextEngine$Words", name := "find", desc := "(JI)I" } : Jvm.MethodName)), (Jvm.Cond.methodLink "TextEngine$Encoder" (34 : Nat) ({ cls := "java/lang/Math", name := "max", desc := "(II)I" } : Jvm.MethodName)), (Jvm.Cond.static ({ cls := "java/lang/Math", name := "max", desc := "(II)I" } : Jvm.MethodName)), (Jvm.Cond.code ({ cls := "java/lang/Math", name := "max", desc := "(II)I" } : Jvm.MethodName) prog_14_method_65_code (2 : Nat) (Option.some Jvm.ClassFile.FieldType.int)), (Jvm.Cond.methodLink "TextEngine$Encoder" (40 : Nat) ({ cls := "TextEngine$Encoder", name := "mergeOnce", desc := "(LTextEngine$Words;)Z" } : Jvm.MethodName))]
def xq_26 : List Cond := [(Jvm.Cond.privateMethod ({ cls := "TextEngine$Encoder", name := "mergeOnce", desc := "(LTextEngine$Words;)Z" } : Jvm.MethodName)), (Jvm.Cond.instanceMethod ({ cls := "TextEngine$Encoder", name := "mergeOnce", desc := "(LTextEngine$Words;)Z" } : Jvm.MethodName)), (Jvm.Cond.code ({ cls := "TextEngine$Encoder", name := "mergeOnce", desc := "(LTextEngine$Words;)Z" } : Jvm.MethodName) prog_3_method_3_code (4 : Nat) (Option.some Jvm.ClassFile.FieldType.boolean)), (Jvm.Cond.methodLink "TextEngine$Encoder" (56 : Nat) ({ cls := "TextEngine$Encoder", name := "join", desc := "(II)V" } : Jvm.MethodName)), (Jvm.Cond.privateMethod ({ cls := "TextEngine$Encoder", name := "join", desc := "(II)V" } : Jvm.MethodName)), (Jvm.Cond.instanceMethod ({ cls := "TextEngine$Encoder", name := "join", desc := "(II)V" } : Jvm.MethodName)), (Jvm.Cond.code ({ cls := "TextEngine$Encoder", name := "join", desc := "(II)V" } : Jvm.MethodName) prog_3_method_4_code (4 : Nat) (Option.none : Option Jvm.ClassFile.FieldType)), (Jvm.Cond.methodLink "TextEngineLaw" (56 : Nat) ({ cls := "TextEngine", name := "token", desc := "(I)I" } : Jvm.MethodName)), (Jvm.Cond.instanceMethod ({ cls := "TextEngine", name := "token", desc := "(I)I" } : Jvm.MethodName)), (Jvm.Cond.selects "TextEngine" ({ cls := "TextEngine", name := "token", desc := "(I)I" } : Jvm.MethodName) ({ cls := "TextEngine", name := "token", desc := "(I)I" } : Jvm.MethodName)), (Jvm.Cond.code ({ cls := "TextEngine", name := "token", desc := "(I)I" } : Jvm.MethodName) prog_1_method_13_code (2 : Nat) (Option.some Jvm.ClassFile.FieldType.int)), (Jvm.Cond.methodLink "TextEngineLaw" (60 : Nat) ({ cls := "TextEngine", name := "letter", desc := "(II)I" } : Jvm.MethodName)), (Jvm.Cond.instanceMethod ({ cls := "TextEngine", name := "letter", desc := "(II)I" } : Jvm.MethodName)), (Jvm.Cond.selects "TextEngine" ({ cls := "TextEngine", name := "letter", desc := "(II)I" } : Jvm.MethodName) ({ cls := "TextEngine", name := "letter", desc := "(II)I" } : Jvm.MethodName)), (Jvm.Cond.code ({ cls := "TextEngine", name := "letter", desc := "(II)I" } : Jvm.MethodName) prog_1_method_14_code (3 : Nat) (Option.some Jvm.ClassFile.FieldType.int)), (Jvm.Cond.methodLink "TextEngine" (145 : Nat) ({ cls := "TextEngine$Model", name := "isToken", desc := "(I)Z" } : Jvm.MethodName))]
set_option maxRecDepth 100000 in
theorem xqe_3 : tables_1_3 = xq_19 ++ (xq_20 ++ (xq_21 ++ (xq_22 ++ (xq_23 ++ (xq_24 ++ (xq_25 ++ (xq_26))))))) := rfl
theorem xqi_19 {w : Cond} (h : w ∈ xq_19) : w ∈ lw_tbl := (List.mem_append_right _ (List.mem_append_right _ (List.mem_append_right _ (List.mem_append_left _ (by rw [xqe_3]; exact (List.mem_append_left _ h))))))
theorem xw19 (i : Nat) {w : Cond} (h : xq_19[i]? = some w) (g : goodWord w = true) : w ∈ xTB := List.mem_filter.mpr ⟨xqi_19 (List.mem_of_getElem? h), g⟩
theorem xqi_20 {w : Cond} (h : w ∈ xq_20) : w ∈ lw_tbl := (List.mem_append_right _ (List.mem_append_right _ (List.mem_append_right _ (List.mem_append_left _ (by rw [xqe_3]; exact (List.mem_append_right _ (List.mem_append_left _ h)))))))
theorem xw20 (i : Nat) {w : Cond} (h : xq_20[i]? = some w) (g : goodWord w = true) : w ∈ xTB := List.mem_filter.mpr ⟨xqi_20 (List.mem_of_getElem? h), g⟩
theorem xqi_21 {w : Cond} (h : w ∈ xq_21) : w ∈ lw_tbl := (List.mem_append_right _ (List.mem_append_right _ (List.mem_append_right _ (List.mem_append_left _ (by rw [xqe_3]; exact (List.mem_append_right _ (List.mem_append_right _ (List.mem_append_left _ h))))))))
theorem xw21 (i : Nat) {w : Cond} (h : xq_21[i]? = some w) (g : goodWord w = true) : w ∈ xTB := List.mem_filter.mpr ⟨xqi_21 (List.mem_of_getElem? h), g⟩
theorem xqi_22 {w : Cond} (h : w ∈ xq_22) : w ∈ lw_tbl := (List.mem_append_right _ (List.mem_append_right _ (List.mem_append_right _ (List.mem_append_left _ (by rw [xqe_3]; exact (List.mem_append_right _ (List.mem_append_right _ (List.mem_append_right _ (List.mem_append_left _ h)))))))))
theorem xw22 (i : Nat) {w : Cond} (h : xq_22[i]? = some w) (g : goodWord w = true) : w ∈ xTB := List.mem_filter.mpr ⟨xqi_22 (List.mem_of_getElem? h), g⟩
theorem xqi_23 {w : Cond} (h : w ∈ xq_23) : w ∈ lw_tbl := (List.mem_append_right _ (List.mem_append_right _ (List.mem_append_right _ (List.mem_append_left _ (by rw [xqe_3]; exact (List.mem_append_right _ (List.mem_append_right _ (List.mem_append_right _ (List.mem_append_right _ (List.mem_append_left _ h))))))))))
theorem xw23 (i : Nat) {w : Cond} (h : xq_23[i]? = some w) (g : goodWord w = true) : w ∈ xTB := List.mem_filter.mpr ⟨xqi_23 (List.mem_of_getElem? h), g⟩
theorem xqi_24 {w : Cond} (h : w ∈ xq_24) : w ∈ lw_tbl := (List.mem_append_right _ (List.mem_append_right _ (List.mem_append_right _ (List.mem_append_left _ (by rw [xqe_3]; exact (List.mem_append_right _ (List.mem_append_right _ (List.mem_append_right _ (List.mem_append_right _ (List.mem_append_right _ (List.mem_append_left _ h)))))))))))
theorem xw24 (i : Nat) {w : Cond} (h : xq_24[i]? = some w) (g : goodWord w = true) : w ∈ xTB := List.mem_filter.mpr ⟨xqi_24 (List.mem_of_getElem? h), g⟩
theorem xqi_25 {w : Cond} (h : w ∈ xq_25) : w ∈ lw_tbl := (List.mem_append_right _ (List.mem_append_right _ (List.mem_append_right _ (List.mem_append_left _ (by rw [xqe_3]; exact (List.mem_append_right _ (List.mem_append_right _ (List.mem_append_right _ (List.mem_append_right _ (List.mem_append_right _ (List.mem_append_right _ (List.mem_append_left _ h))))))))))))
theorem xw25 (i : Nat) {w : Cond} (h : xq_25[i]? = some w) (g : goodWord w = true) : w ∈ xTB := List.mem_filter.mpr ⟨xqi_25 (List.mem_of_getElem? h), g⟩
theorem xqi_26 {w : Cond} (h : w ∈ xq_26) : w ∈ lw_tbl := (List.mem_append_right _ (List.mem_append_right _ (List.mem_append_right _ (List.mem_append_left _ (by rw [xqe_3]; exact (List.mem_append_right _ (List.mem_append_right _ (List.mem_append_right _ (List.mem_append_right _ (List.mem_append_right _ (List.mem_append_right _ (List.mem_append_right _ h))))))))))))
theorem xw26 (i : Nat) {w : Cond} (h : xq_26[i]? = some w) (g : goodWord w = true) : w ∈ xTB := List.mem_filter.mpr ⟨xqi_26 (List.mem_of_getElem? h), g⟩
def xq_27 : List Cond := [(Jvm.Cond.instanceMethod ({ cls := "TextEngine$Model", name := "isToken", desc := "(I)Z" } : Jvm.MethodName)), (Jvm.Cond.selects "TextEngine$Model" ({ cls := "TextEngine$Model", name := "isToken", desc := "(I)Z" } : Jvm.MethodName) ({ cls := "TextEngine$Model", name := "isToken", desc := "(I)Z" } : Jvm.MethodName)), (Jvm.Cond.code ({ cls := "TextEngine$Model", name := "isToken", desc := "(I)Z" } : Jvm.MethodName) prog_5_method_2_code (2 : Nat) (Option.some Jvm.ClassFile.FieldType.boolean)), (Jvm.Cond.methodLink "TextEngine" (149 : Nat) ({ cls := "TextEngine$Words", name := "octetOf", desc := "(II)I" } : Jvm.MethodName)), (Jvm.Cond.instanceMethod ({ cls := "TextEngine$Words", name := "octetOf", desc := "(II)I" } : Jvm.MethodName)), (Jvm.Cond.selects "TextEngine$Words" ({ cls := "TextEngine$Words", name := "octetOf", desc := "(II)I" } : Jvm.MethodName) ({ cls := "TextEngine$Words", name := "octetOf", desc := "(II)I" } : Jvm.MethodName)), (Jvm.Cond.code ({ cls := "TextEngine$Words", name := "octetOf", desc := "(II)I" } : Jvm.MethodName) prog_11_method_9_code (3 : Nat) (Option.some Jvm.ClassFile.FieldType.int)), (Jvm.Cond.methodLink "TextEngineLaw" (64 : Nat) ({ cls := "TextEngine", name := "step", desc := "(I)I" } : Jvm.MethodName)), (Jvm.Cond.instanceMethod ({ cls := "TextEngine", name := "step", desc := "(I)I" } : Jvm.MethodName)), (Jvm.Cond.selects "TextEngine" ({ cls := "TextEngine", name := "step", desc := "(I)I" } : Jvm.MethodName) ({ cls := "TextEngine", name := "step", desc := "(I)I" } : Jvm.MethodName)), (Jvm.Cond.code ({ cls := "TextEngine", name := "step", desc := "(I)I" } : Jvm.MethodName) prog_1_method_15_code (2 : Nat) (Option.some Jvm.ClassFile.FieldType.int)), (Jvm.Cond.methodLink "TextEngine" (157 : Nat) ({ cls := "TextEngine$Network", name := "advance", desc := "(LTextEngine$Model;I)I" } : Jvm.MethodName)), (Jvm.Cond.instanceMethod ({ cls := "TextEngine$Network", name := "advance", desc := "(LTextEngine$Model;I)I" } : Jvm.MethodName)), (Jvm.Cond.selects "TextEngine$Network" ({ cls := "TextEngine$Network", name := "advance", desc := "(LTextEngine$Model;I)I" } : Jvm.MethodName) ({ cls := "TextEngine$Network", name := "advance", desc := "(LTextEngine$Model;I)I" } : Jvm.MethodName)), (Jvm.Cond.code ({ cls := "TextEngine$Network", name := "advance", desc := "(LTextEngine$Model;I)I" } : Jvm.MethodName) prog_6_method_3_code (6 : Nat) (Option.some Jvm.ClassFile.FieldType.int)), (Jvm.Cond.methodLink "TextEngine$Network" (63 : Nat) ({ cls := "TextEngine$Tensors", name := "at", desc := "(III)F" } : Jvm.MethodName)), (Jvm.Cond.methodLink "TextEngine$Network" (67 : Nat) ({ cls := "TextEngine$Network", name := "attend", desc := "(LTextEngine$Model;II)V" } : Jvm.MethodName)), (Jvm.Cond.privateMethod ({ cls := "TextEngine$Network", name := "attend", desc := "(LTextEngine$Model;II)V" } : Jvm.MethodName)), (Jvm.Cond.instanceMethod ({ cls := "TextEngine$Network", name := "attend", desc := "(LTextEngine$Model;II)V" } : Jvm.MethodName)), (Jvm.Cond.code ({ cls := "TextEngine$Network", name := "attend", desc := "(LTextEngine$Model;II)V" } : Jvm.MethodName) prog_6_method_6_code (9 : Nat) (Option.none : Option Jvm.ClassFile.FieldType)), (Jvm.Cond.methodLink "TextEngine$Network" (90 : Nat) ({ cls := "TextEngine$Network", name := "placeOf", desc := "(LTextEngine$Model;I)I" } : Jvm.MethodName)), (Jvm.Cond.static ({ cls := "TextEngine$Network", name := "placeOf", desc := "(LTextEngine$Model;I)I" } : Jvm.MethodName)), (Jvm.Cond.code ({ cls := "TextEngine$Network", name := "placeOf", desc := "(LTextEngine$Model;I)I" } : Jvm.MethodName) prog_6_method_5_code (2 : Nat) (Option.some Jvm.ClassFile.FieldType.int)), (Jvm.Cond.methodLink "TextEngine$Network" (75 : Nat) ({ cls := "TextEngine$Network", name := "normalise", desc := "(LTextEngine$Model;I)V" } : Jvm.MethodName)), (Jvm.Cond.privateMethod ({ cls := "TextEngine$Network", name := "normalise", desc := "(LTextEngine$Model;I)V" } : Jvm.MethodName)), (Jvm.Cond.instanceMethod ({ cls := "TextEngine$Network", name := "normalise", desc := "(LTextEngine$Model;I)V" } : Jvm.MethodName)), (Jvm.Cond.code ({ cls := "TextEngine$Network", name := "normalise", desc := "(LTextEngine$Model;I)V" } : Jvm.MethodName) prog_6_method_4_code (8 : Nat) (Option.none : Option Jvm.ClassFile.FieldType)), (Jvm.Cond.methodLink "TextEngine$Network" (86 : Nat) ({ cls := "TextEngine$Network", name := "root", desc := "(F)F" } : Jvm.MethodName)), (Jvm.Cond.static ({ cls := "TextEngine$Network", name := "root", desc := "(F)F" } : Jvm.MethodName)), (Jvm.Cond.code ({ cls := "TextEngine$Network", name := "root", desc := "(F)F" } : Jvm.MethodName) prog_6_method_12_code (3 : Nat) (Option.some Jvm.ClassFile.FieldType.float)), (Jvm.Cond.methodLink "TextEngine$Network" (78 : Nat) ({ cls := "TextEngine$Tensors", name := "multiply", desc := "(I[F[FI)V" } : Jvm.MethodName)), (Jvm.Cond.instanceMethod ({ cls := "TextEngine$Tensors", name := "multiply", desc := "(I[F[FI)V" } : Jvm.MethodName))]
def xq_28 : List Cond := [(Jvm.Cond.selects "TextEngine$Tensors" ({ cls := "TextEngine$Tensors", name := "multiply", desc := "(I[F[FI)V" } : Jvm.MethodName) ({ cls := "TextEngine$Tensors", name := "multiply", desc := "(I[F[FI)V" } : Jvm.MethodName)), (Jvm.Cond.code ({ cls := "TextEngine$Tensors", name := "multiply", desc := "(I[F[FI)V" } : Jvm.MethodName) prog_10_method_5_code (7 : Nat) (Option.none : Option Jvm.ClassFile.FieldType)), (Jvm.Cond.methodLink "TextEngine$Tensors" (32 : Nat) ({ cls := "TextEngine$Tensors", name := "dot", desc := "(II[F)F" } : Jvm.MethodName)), (Jvm.Cond.instanceMethod ({ cls := "TextEngine$Tensors", name := "dot", desc := "(II[F)F" } : Jvm.MethodName)), (Jvm.Cond.selects "TextEngine$Tensors" ({ cls := "TextEngine$Tensors", name := "dot", desc := "(II[F)F" } : Jvm.MethodName) ({ cls := "TextEngine$Tensors", name := "dot", desc := "(II[F)F" } : Jvm.MethodName)), (Jvm.Cond.code ({ cls := "TextEngine$Tensors", name := "dot", desc := "(II[F)F" } : Jvm.MethodName) prog_10_method_4_code (8 : Nat) (Option.some Jvm.ClassFile.FieldType.float)), (Jvm.Cond.methodLink "TextEngine$Network" (94 : Nat) ({ cls := "TextEngine$Network", name := "turn", desc := "(LTextEngine$Model;[FII)V" } : Jvm.MethodName)), (Jvm.Cond.privateMethod ({ cls := "TextEngine$Network", name := "turn", desc := "(LTextEngine$Model;[FII)V" } : Jvm.MethodName)), (Jvm.Cond.instanceMethod ({ cls := "TextEngine$Network", name := "turn", desc := "(LTextEngine$Model;[FII)V" } : Jvm.MethodName)), (Jvm.Cond.code ({ cls := "TextEngine$Network", name := "turn", desc := "(LTextEngine$Model;[FII)V" } : Jvm.MethodName) prog_6_method_7_code (15 : Nat) (Option.none : Option Jvm.ClassFile.FieldType)), (Jvm.Cond.constantFloat "TextEngine$Network" (116 : Nat) (1082130432 : UInt32)), (Jvm.Cond.methodLink "TextEngine$Network" (104 : Nat) ({ cls := "TextEngine$Network", name := "weighHead", desc := "(LTextEngine$Model;[FII)F" } : Jvm.MethodName)), (Jvm.Cond.privateMethod ({ cls := "TextEngine$Network", name := "weighHead", desc := "(LTextEngine$Model;[FII)F" } : Jvm.MethodName)), (Jvm.Cond.instanceMethod ({ cls := "TextEngine$Network", name := "weighHead", desc := "(LTextEngine$Model;[FII)F" } : Jvm.MethodName)), (Jvm.Cond.code ({ cls := "TextEngine$Network", name := "weighHead", desc := "(LTextEngine$Model;[FII)F" } : Jvm.MethodName) prog_6_method_9_code (13 : Nat) (Option.some Jvm.ClassFile.FieldType.float)), (Jvm.Cond.methodLink "TextEngine$Network" (126 : Nat) ({ cls := "TextEngine$Network", name := "earliest", desc := "(LTextEngine$Model;)I" } : Jvm.MethodName)), (Jvm.Cond.privateMethod ({ cls := "TextEngine$Network", name := "earliest", desc := "(LTextEngine$Model;)I" } : Jvm.MethodName)), (Jvm.Cond.instanceMethod ({ cls := "TextEngine$Network", name := "earliest", desc := "(LTextEngine$Model;)I" } : Jvm.MethodName)), (Jvm.Cond.code ({ cls := "TextEngine$Network", name := "earliest", desc := "(LTextEngine$Model;)I" } : Jvm.MethodName) prog_6_method_8_code (2 : Nat) (Option.some Jvm.ClassFile.FieldType.int)), (Jvm.Cond.methodLink "TextEngine$Network" (120 : Nat) ({ cls := "java/lang/Math", name := "max", desc := "(II)I" } : Jvm.MethodName)), (Jvm.Cond.methodLink "TextEngine$Network" (130 : Nat) ({ cls := "TextEngine$Network", name := "exp", desc := "(F)F" } : Jvm.MethodName)), (Jvm.Cond.static ({ cls := "TextEngine$Network", name := "exp", desc := "(F)F" } : Jvm.MethodName)), (Jvm.Cond.code ({ cls := "TextEngine$Network", name := "exp", desc := "(F)F" } : Jvm.MethodName) prog_6_method_13_code (4 : Nat) (Option.some Jvm.ClassFile.FieldType.float)), (Jvm.Cond.constantFloat "TextEngine$Network" (133 : Nat) (3246391296 : UInt32)), (Jvm.Cond.constantFloat "TextEngine$Network" (134 : Nat) (1098907648 : UInt32)), (Jvm.Cond.constantFloat "TextEngine$Network" (135 : Nat) (1132462080 : UInt32)), (Jvm.Cond.methodLink "TextEngine$Network" (108 : Nat) ({ cls := "TextEngine$Network", name := "mixHead", desc := "(LTextEngine$Model;[FIIF)V" } : Jvm.MethodName)), (Jvm.Cond.privateMethod ({ cls := "TextEngine$Network", name := "mixHead", desc := "(LTextEngine$Model;[FIIF)V" } : Jvm.MethodName)), (Jvm.Cond.instanceMethod ({ cls := "TextEngine$Network", name := "mixHead", desc := "(LTextEngine$Model;[FIIF)V" } : Jvm.MethodName)), (Jvm.Cond.code ({ cls := "TextEngine$Network", name := "mixHead", desc := "(LTextEngine$Model;[FIIF)V" } : Jvm.MethodName) prog_6_method_10_code (10 : Nat) (Option.none : Option Jvm.ClassFile.FieldType)), (Jvm.Cond.methodLink "TextEngine$Network" (112 : Nat) ({ cls := "TextEngine$Tensors", name := "addProducts", desc := "(I[F[F)V" } : Jvm.MethodName)), (Jvm.Cond.instanceMethod ({ cls := "TextEngine$Tensors", name := "addProducts", desc := "(I[F[F)V" } : Jvm.MethodName))]
def xq_29 : List Cond := [(Jvm.Cond.selects "TextEngine$Tensors" ({ cls := "TextEngine$Tensors", name := "addProducts", desc := "(I[F[F)V" } : Jvm.MethodName) ({ cls := "TextEngine$Tensors", name := "addProducts", desc := "(I[F[F)V" } : Jvm.MethodName)), (Jvm.Cond.code ({ cls := "TextEngine$Tensors", name := "addProducts", desc := "(I[F[F)V" } : Jvm.MethodName) prog_10_method_6_code (6 : Nat) (Option.none : Option Jvm.ClassFile.FieldType)), (Jvm.Cond.methodLink "TextEngine$Network" (71 : Nat) ({ cls := "TextEngine$Network", name := "feed", desc := "(LTextEngine$Model;I)V" } : Jvm.MethodName)), (Jvm.Cond.privateMethod ({ cls := "TextEngine$Network", name := "feed", desc := "(LTextEngine$Model;I)V" } : Jvm.MethodName)), (Jvm.Cond.instanceMethod ({ cls := "TextEngine$Network", name := "feed", desc := "(LTextEngine$Model;I)V" } : Jvm.MethodName)), (Jvm.Cond.code ({ cls := "TextEngine$Network", name := "feed", desc := "(LTextEngine$Model;I)V" } : Jvm.MethodName) prog_6_method_11_code (4 : Nat) (Option.none : Option Jvm.ClassFile.FieldType)), (Jvm.Cond.methodLink "TextEngineLaw" (68 : Nat) ({ cls := "TextEngine", name := "logit", desc := "(I)I" } : Jvm.MethodName)), (Jvm.Cond.instanceMethod ({ cls := "TextEngine", name := "logit", desc := "(I)I" } : Jvm.MethodName)), (Jvm.Cond.selects "TextEngine" ({ cls := "TextEngine", name := "logit", desc := "(I)I" } : Jvm.MethodName) ({ cls := "TextEngine", name := "logit", desc := "(I)I" } : Jvm.MethodName)), (Jvm.Cond.code ({ cls := "TextEngine", name := "logit", desc := "(I)I" } : Jvm.MethodName) prog_1_method_16_code (2 : Nat) (Option.some Jvm.ClassFile.FieldType.int)), (Jvm.Cond.methodLink "TextEngine" (161 : Nat) ({ cls := "TextEngine", name := "hasNoLogits", desc := "()Z" } : Jvm.MethodName)), (Jvm.Cond.privateMethod ({ cls := "TextEngine", name := "hasNoLogits", desc := "()Z" } : Jvm.MethodName)), (Jvm.Cond.instanceMethod ({ cls := "TextEngine", name := "hasNoLogits", desc := "()Z" } : Jvm.MethodName)), (Jvm.Cond.code ({ cls := "TextEngine", name := "hasNoLogits", desc := "()Z" } : Jvm.MethodName) prog_1_method_17_code (1 : Nat) (Option.some Jvm.ClassFile.FieldType.boolean)), (Jvm.Cond.constantFloat "TextEngine" (169 : Nat) (1149239296 : UInt32)), (Jvm.Cond.methodLink "TextEngineLaw" (72 : Nat) ({ cls := "TextEngine", name := "seed", desc := "(J)V" } : Jvm.MethodName)), (Jvm.Cond.instanceMethod ({ cls := "TextEngine", name := "seed", desc := "(J)V" } : Jvm.MethodName)), (Jvm.Cond.selects "TextEngine" ({ cls := "TextEngine", name := "seed", desc := "(J)V" } : Jvm.MethodName) ({ cls := "TextEngine", name := "seed", desc := "(J)V" } : Jvm.MethodName)), (Jvm.Cond.code ({ cls := "TextEngine", name := "seed", desc := "(J)V" } : Jvm.MethodName) prog_1_method_18_code (3 : Nat) (Option.none : Option Jvm.ClassFile.FieldType)), (Jvm.Cond.methodLink "TextEngineLaw" (77 : Nat) ({ cls := "TextEngine", name := "draw", desc := "(III)I" } : Jvm.MethodName)), (Jvm.Cond.instanceMethod ({ cls := "TextEngine", name := "draw", desc := "(III)I" } : Jvm.MethodName)), (Jvm.Cond.selects "TextEngine" ({ cls := "TextEngine", name := "draw", desc := "(III)I" } : Jvm.MethodName) ({ cls := "TextEngine", name := "draw", desc := "(III)I" } : Jvm.MethodName)), (Jvm.Cond.code ({ cls := "TextEngine", name := "draw", desc := "(III)I" } : Jvm.MethodName) prog_1_method_19_code (4 : Nat) (Option.some Jvm.ClassFile.FieldType.int)), (Jvm.Cond.methodLink "TextEngine" (174 : Nat) ({ cls := "TextEngine$Chooser", name := "sort", desc := "([FI)V" } : Jvm.MethodName)), (Jvm.Cond.instanceMethod ({ cls := "TextEngine$Chooser", name := "sort", desc := "([FI)V" } : Jvm.MethodName)), (Jvm.Cond.selects "TextEngine$Chooser" ({ cls := "TextEngine$Chooser", name := "sort", desc := "([FI)V" } : Jvm.MethodName) ({ cls := "TextEngine$Chooser", name := "sort", desc := "([FI)V" } : Jvm.MethodName)), (Jvm.Cond.code ({ cls := "TextEngine$Chooser", name := "sort", desc := "([FI)V" } : Jvm.MethodName) prog_2_method_2_code (5 : Nat) (Option.none : Option Jvm.ClassFile.FieldType)), (Jvm.Cond.methodLink "TextEngine" (181 : Nat) ({ cls := "java/lang/Math", name := "min", desc := "(II)I" } : Jvm.MethodName)), (Jvm.Cond.static ({ cls := "java/lang/Math", name := "min", desc := "(II)I" } : Jvm.MethodName)), (Jvm.Cond.code ({ cls := "java/lang/Math", name := "min", desc := "(II)I" } : Jvm.MethodName) prog_14_method_69_code (2 : Nat) (Option.some Jvm.ClassFile.FieldType.int)), (Jvm.Cond.methodLink "TextEngine" (186 : Nat) ({ cls := "TextEngine$Chooser", name := "pick", desc := "([FIII)I" } : Jvm.MethodName)), (Jvm.Cond.instanceMethod ({ cls := "TextEngine$Chooser", name := "pick", desc := "([FIII)I" } : Jvm.MethodName))]
def xq_30 : List Cond := [(Jvm.Cond.selects "TextEngine$Chooser" ({ cls := "TextEngine$Chooser", name := "pick", desc := "([FIII)I" } : Jvm.MethodName) ({ cls := "TextEngine$Chooser", name := "pick", desc := "([FIII)I" } : Jvm.MethodName)), (Jvm.Cond.code ({ cls := "TextEngine$Chooser", name := "pick", desc := "([FIII)I" } : Jvm.MethodName) prog_2_method_3_code (9 : Nat) (Option.some Jvm.ClassFile.FieldType.int)), (Jvm.Cond.constantFloat "TextEngine$Chooser" (23 : Nat) (1120403456 : UInt32)), (Jvm.Cond.methodLink "TextEngine$Chooser" (24 : Nat) ({ cls := "TextEngine$Chooser", name := "addUp", desc := "([FFI)V" } : Jvm.MethodName)), (Jvm.Cond.privateMethod ({ cls := "TextEngine$Chooser", name := "addUp", desc := "([FFI)V" } : Jvm.MethodName)), (Jvm.Cond.instanceMethod ({ cls := "TextEngine$Chooser", name := "addUp", desc := "([FFI)V" } : Jvm.MethodName)), (Jvm.Cond.code ({ cls := "TextEngine$Chooser", name := "addUp", desc := "([FFI)V" } : Jvm.MethodName) prog_2_method_4_code (7 : Nat) (Option.none : Option Jvm.ClassFile.FieldType)), (Jvm.Cond.methodLink "TextEngine$Chooser" (36 : Nat) ({ cls := "TextEngine$Network", name := "exp", desc := "(F)F" } : Jvm.MethodName)), (Jvm.Cond.methodLink "TextEngine$Chooser" (28 : Nat) ({ cls := "TextEngine$Chooser", name := "firstAtLeast", desc := "(FI)I" } : Jvm.MethodName)), (Jvm.Cond.privateMethod ({ cls := "TextEngine$Chooser", name := "firstAtLeast", desc := "(FI)I" } : Jvm.MethodName)), (Jvm.Cond.instanceMethod ({ cls := "TextEngine$Chooser", name := "firstAtLeast", desc := "(FI)I" } : Jvm.MethodName)), (Jvm.Cond.code ({ cls := "TextEngine$Chooser", name := "firstAtLeast", desc := "(FI)I" } : Jvm.MethodName) prog_2_method_5_code (4 : Nat) (Option.some Jvm.ClassFile.FieldType.int)), (Jvm.Cond.methodLink "TextEngine$Chooser" (32 : Nat) ({ cls := "TextEngine$Chooser", name := "moveOn", desc := "()V" } : Jvm.MethodName)), (Jvm.Cond.privateMethod ({ cls := "TextEngine$Chooser", name := "moveOn", desc := "()V" } : Jvm.MethodName)), (Jvm.Cond.instanceMethod ({ cls := "TextEngine$Chooser", name := "moveOn", desc := "()V" } : Jvm.MethodName)), (Jvm.Cond.code ({ cls := "TextEngine$Chooser", name := "moveOn", desc := "()V" } : Jvm.MethodName) prog_2_method_6_code (1 : Nat) (Option.none : Option Jvm.ClassFile.FieldType)), (Jvm.Cond.constantFloat "TextEngine$Chooser" (35 : Nat) (1266679808 : UInt32)), (Jvm.Cond.methodLink "TextEngineLaw" (81 : Nat) ({ cls := "TextEngine", name := "say", desc := "(I)I" } : Jvm.MethodName)), (Jvm.Cond.instanceMethod ({ cls := "TextEngine", name := "say", desc := "(I)I" } : Jvm.MethodName)), (Jvm.Cond.selects "TextEngine" ({ cls := "TextEngine", name := "say", desc := "(I)I" } : Jvm.MethodName) ({ cls := "TextEngine", name := "say", desc := "(I)I" } : Jvm.MethodName)), (Jvm.Cond.code ({ cls := "TextEngine", name := "say", desc := "(I)I" } : Jvm.MethodName) prog_1_method_20_code (4 : Nat) (Option.some Jvm.ClassFile.FieldType.int)), (Jvm.Cond.methodLink "TextEngine" (190 : Nat) ({ cls := "TextEngine", name := "sayOne", desc := "()Z" } : Jvm.MethodName)), (Jvm.Cond.privateMethod ({ cls := "TextEngine", name := "sayOne", desc := "()Z" } : Jvm.MethodName)), (Jvm.Cond.instanceMethod ({ cls := "TextEngine", name := "sayOne", desc := "()Z" } : Jvm.MethodName)), (Jvm.Cond.code ({ cls := "TextEngine", name := "sayOne", desc := "()Z" } : Jvm.MethodName) prog_1_method_21_code (2 : Nat) (Option.some Jvm.ClassFile.FieldType.boolean)), (Jvm.Cond.methodLink "TextEngine" (193 : Nat) ({ cls := "TextEngine$Sayings", name := "add", desc := "(I)V" } : Jvm.MethodName)), (Jvm.Cond.instanceMethod ({ cls := "TextEngine$Sayings", name := "add", desc := "(I)V" } : Jvm.MethodName)), (Jvm.Cond.selects "TextEngine$Sayings" ({ cls := "TextEngine$Sayings", name := "add", desc := "(I)V" } : Jvm.MethodName) ({ cls := "TextEngine$Sayings", name := "add", desc := "(I)V" } : Jvm.MethodName)), (Jvm.Cond.code ({ cls := "TextEngine$Sayings", name := "add", desc := "(I)V" } : Jvm.MethodName) prog_9_method_2_code (2 : Nat) (Option.none : Option Jvm.ClassFile.FieldType)), (Jvm.Cond.methodLink "TextEngineLaw" (85 : Nat) ({ cls := "TextEngine", name := "said", desc := "(I)I" } : Jvm.MethodName)), (Jvm.Cond.instanceMethod ({ cls := "TextEngine", name := "said", desc := "(I)I" } : Jvm.MethodName)), (Jvm.Cond.selects "TextEngine" ({ cls := "TextEngine", name := "said", desc := "(I)I" } : Jvm.MethodName) ({ cls := "TextEngine", name := "said", desc := "(I)I" } : Jvm.MethodName))]
def xq_31 : List Cond := [(Jvm.Cond.code ({ cls := "TextEngine", name := "said", desc := "(I)I" } : Jvm.MethodName) prog_1_method_22_code (2 : Nat) (Option.some Jvm.ClassFile.FieldType.int)), (Jvm.Cond.methodLink "TextEngine" (196 : Nat) ({ cls := "TextEngine$Sayings", name := "before", desc := "(I)I" } : Jvm.MethodName)), (Jvm.Cond.instanceMethod ({ cls := "TextEngine$Sayings", name := "before", desc := "(I)I" } : Jvm.MethodName)), (Jvm.Cond.selects "TextEngine$Sayings" ({ cls := "TextEngine$Sayings", name := "before", desc := "(I)I" } : Jvm.MethodName) ({ cls := "TextEngine$Sayings", name := "before", desc := "(I)I" } : Jvm.MethodName)), (Jvm.Cond.code ({ cls := "TextEngine$Sayings", name := "before", desc := "(I)I" } : Jvm.MethodName) prog_9_method_3_code (2 : Nat) (Option.some Jvm.ClassFile.FieldType.int)), (Jvm.Cond.methodLink "TextEngineLaw" (89 : Nat) ({ cls := "TextEngine", name := "reset", desc := "()I" } : Jvm.MethodName)), (Jvm.Cond.instanceMethod ({ cls := "TextEngine", name := "reset", desc := "()I" } : Jvm.MethodName)), (Jvm.Cond.selects "TextEngine" ({ cls := "TextEngine", name := "reset", desc := "()I" } : Jvm.MethodName) ({ cls := "TextEngine", name := "reset", desc := "()I" } : Jvm.MethodName)), (Jvm.Cond.code ({ cls := "TextEngine", name := "reset", desc := "()I" } : Jvm.MethodName) prog_1_method_23_code (2 : Nat) (Option.some Jvm.ClassFile.FieldType.int)), (Jvm.Cond.classLink "TextEngineLaw" (10 : Nat) "TextEngineModel"), (Jvm.Cond.instantiable "TextEngineModel" (63 : Nat)), (Jvm.Cond.methodLink "TextEngineLaw" (12 : Nat) ({ cls := "TextEngineModel", name := "<init>", desc := "()V" } : Jvm.MethodName)), (Jvm.Cond.instanceMethod ({ cls := "TextEngineModel", name := "<init>", desc := "()V" } : Jvm.MethodName)), (Jvm.Cond.code ({ cls := "TextEngineModel", name := "<init>", desc := "()V" } : Jvm.MethodName) prog_13_method_1_code (1 : Nat) (Option.none : Option Jvm.ClassFile.FieldType)), (Jvm.Cond.methodLink "TextEngineModel" (1 : Nat) ({ cls := "java/lang/Object", name := "<init>", desc := "()V" } : Jvm.MethodName)), (Jvm.Cond.fieldLink "TextEngineModel" (7 : Nat) "TextEngineModel" "f" "[I"), (Jvm.Cond.fieldLink "TextEngineModel" (155 : Nat) "TextEngineModel" "size" "I"), (Jvm.Cond.fieldLink "TextEngineModel" (163 : Nat) "TextEngineModel" "at" "I"), (Jvm.Cond.fieldLink "TextEngineModel" (160 : Nat) "TextEngineModel" "fault" "I"), (Jvm.Cond.fieldLink "TextEngineModel" (13 : Nat) "TextEngineModel" "place" "I"), (Jvm.Cond.fieldLink "TextEngineModel" (17 : Nat) "TextEngineModel" "keyAt" "[I"), (Jvm.Cond.fieldLink "TextEngineModel" (20 : Nat) "TextEngineModel" "type" "[I"), (Jvm.Cond.fieldLink "TextEngineModel" (23 : Nat) "TextEngineModel" "valueAt" "[I"), (Jvm.Cond.fieldLink "TextEngineModel" (26 : Nat) "TextEngineModel" "nameAt" "[I"), (Jvm.Cond.fieldLink "TextEngineModel" (29 : Nat) "TextEngineModel" "columns" "[I"), (Jvm.Cond.fieldLink "TextEngineModel" (32 : Nat) "TextEngineModel" "rows" "[I"), (Jvm.Cond.fieldLink "TextEngineModel" (35 : Nat) "TextEngineModel" "packing" "[I"), (Jvm.Cond.fieldLink "TextEngineModel" (38 : Nat) "TextEngineModel" "offset" "[I"), (Jvm.Cond.fieldLink "TextEngineModel" (196 : Nat) "TextEngineModel" "pairs" "I"), (Jvm.Cond.fieldLink "TextEngineModel" (193 : Nat) "TextEngineModel" "tensors" "I"), (Jvm.Cond.fieldLink "TextEngineModel" (41 : Nat) "TextEngineModel" "say" "[I"), (Jvm.Cond.fieldLink "TextEngineModel" (44 : Nat) "TextEngineModel" "tokenAt" "[I")]
def xq_32 : List Cond := [(Jvm.Cond.fieldLink "TextEngineModel" (47 : Nat) "TextEngineModel" "mergeOne" "[I"), (Jvm.Cond.fieldLink "TextEngineModel" (50 : Nat) "TextEngineModel" "mergeTwo" "[I"), (Jvm.Cond.fieldLink "TextEngineModel" (53 : Nat) "TextEngineModel" "mergeTo" "[I"), (Jvm.Cond.fieldLink "TextEngineModel" (56 : Nat) "TextEngineModel" "needed" "[I"), (Jvm.Cond.fieldLink "TextEngineModel" (59 : Nat) "TextEngineModel" "keyed" "[I"), (Jvm.Cond.fieldLink "TextEngineModel" (267 : Nat) "TextEngineModel" "tokens" "I"), (Jvm.Cond.fieldLink "TextEngineModel" (275 : Nat) "TextEngineModel" "merges" "I"), (Jvm.Cond.fieldLink "TextEngineModel" (311 : Nat) "TextEngineModel" "dataAt" "I"), (Jvm.Cond.fieldLink "TextEngineModel" (253 : Nat) "TextEngineModel" "epsilon" "F"), (Jvm.Cond.fieldLink "TextEngineModel" (257 : Nat) "TextEngineModel" "turn" "F"), (Jvm.Cond.fieldLink "TextEngineModel" (62 : Nat) "TextEngineModel" "fact" "[I"), (Jvm.Cond.fieldLink "TextEngineModel" (65 : Nat) "TextEngineModel" "letters" "[I"), (Jvm.Cond.fieldLink "TextEngineModel" (68 : Nat) "TextEngineModel" "letterSize" "[I"), (Jvm.Cond.fieldLink "TextEngineModel" (71 : Nat) "TextEngineModel" "one" "[I"), (Jvm.Cond.fieldLink "TextEngineModel" (74 : Nat) "TextEngineModel" "two" "[I"), (Jvm.Cond.fieldLink "TextEngineModel" (77 : Nat) "TextEngineModel" "to" "[I"), (Jvm.Cond.fieldLink "TextEngineModel" (80 : Nat) "TextEngineModel" "tensor" "[I"), (Jvm.Cond.fieldLink "TextEngineModel" (83 : Nat) "TextEngineModel" "wide" "[I"), (Jvm.Cond.fieldLink "TextEngineModel" (86 : Nat) "TextEngineModel" "high" "[I"), (Jvm.Cond.fieldLink "TextEngineModel" (89 : Nat) "TextEngineModel" "begins" "[I"), (Jvm.Cond.fieldLink "TextEngineModel" (92 : Nat) "TextEngineModel" "weights" "[F"), (Jvm.Cond.fieldLink "TextEngineModel" (332 : Nat) "TextEngineModel" "has" "Z"), (Jvm.Cond.fieldLink "TextEngineModel" (336 : Nat) "TextEngineModel" "eps" "F"), (Jvm.Cond.fieldLink "TextEngineModel" (339 : Nat) "TextEngineModel" "base" "F"), (Jvm.Cond.fieldLink "TextEngineModel" (96 : Nat) "TextEngineModel" "text" "[I"), (Jvm.Cond.fieldLink "TextEngineModel" (99 : Nat) "TextEngineModel" "encoded" "[I"), (Jvm.Cond.fieldLink "TextEngineModel" (102 : Nat) "TextEngineModel" "told" "[I"), (Jvm.Cond.fieldLink "TextEngineModel" (105 : Nat) "TextEngineModel" "order" "[I"), (Jvm.Cond.fieldLink "TextEngineModel" (108 : Nat) "TextEngineModel" "x" "[F"), (Jvm.Cond.fieldLink "TextEngineModel" (111 : Nat) "TextEngineModel" "y" "[F"), (Jvm.Cond.fieldLink "TextEngineModel" (114 : Nat) "TextEngineModel" "q" "[F"), (Jvm.Cond.fieldLink "TextEngineModel" (117 : Nat) "TextEngineModel" "k" "[F")]
def xq_33 : List Cond := [(Jvm.Cond.fieldLink "TextEngineModel" (120 : Nat) "TextEngineModel" "v" "[F"), (Jvm.Cond.fieldLink "TextEngineModel" (123 : Nat) "TextEngineModel" "w" "[F"), (Jvm.Cond.fieldLink "TextEngineModel" (126 : Nat) "TextEngineModel" "g" "[F"), (Jvm.Cond.fieldLink "TextEngineModel" (129 : Nat) "TextEngineModel" "u" "[F"), (Jvm.Cond.fieldLink "TextEngineModel" (132 : Nat) "TextEngineModel" "z" "[F"), (Jvm.Cond.fieldLink "TextEngineModel" (135 : Nat) "TextEngineModel" "keys" "[F"), (Jvm.Cond.fieldLink "TextEngineModel" (138 : Nat) "TextEngineModel" "values" "[F"), (Jvm.Cond.fieldLink "TextEngineModel" (141 : Nat) "TextEngineModel" "logits" "[F"), (Jvm.Cond.fieldLink "TextEngineModel" (144 : Nat) "TextEngineModel" "chances" "[F"), (Jvm.Cond.fieldLink "TextEngineModel" (350 : Nat) "TextEngineModel" "texts" "I"), (Jvm.Cond.fieldLink "TextEngineModel" (352 : Nat) "TextEngineModel" "encodes" "I"), (Jvm.Cond.fieldLink "TextEngineModel" (363 : Nat) "TextEngineModel" "steps" "I"), (Jvm.Cond.fieldLink "TextEngineModel" (391 : Nat) "TextEngineModel" "says" "I"), (Jvm.Cond.fieldLink "TextEngineModel" (147 : Nat) "TextEngineModel" "seed" "J"), (Jvm.Cond.laysFinal "TextEngineModel" "TextEngineModel" "f" "[I"), (Jvm.Cond.soleField "TextEngineModel" "f"), (Jvm.Cond.lays "TextEngineModel" "TextEngineModel" "size" "I"), (Jvm.Cond.soleField "TextEngineModel" "size"), (Jvm.Cond.lays "TextEngineModel" "TextEngineModel" "at" "I"), (Jvm.Cond.soleField "TextEngineModel" "at"), (Jvm.Cond.lays "TextEngineModel" "TextEngineModel" "fault" "I"), (Jvm.Cond.soleField "TextEngineModel" "fault"), (Jvm.Cond.lays "TextEngineModel" "TextEngineModel" "place" "I"), (Jvm.Cond.soleField "TextEngineModel" "place"), (Jvm.Cond.laysFinal "TextEngineModel" "TextEngineModel" "keyAt" "[I"), (Jvm.Cond.soleField "TextEngineModel" "keyAt"), (Jvm.Cond.laysFinal "TextEngineModel" "TextEngineModel" "type" "[I"), (Jvm.Cond.soleField "TextEngineModel" "type"), (Jvm.Cond.laysFinal "TextEngineModel" "TextEngineModel" "valueAt" "[I"), (Jvm.Cond.soleField "TextEngineModel" "valueAt"), (Jvm.Cond.laysFinal "TextEngineModel" "TextEngineModel" "nameAt" "[I"), (Jvm.Cond.soleField "TextEngineModel" "nameAt")]
def xq_34 : List Cond := [(Jvm.Cond.laysFinal "TextEngineModel" "TextEngineModel" "columns" "[I"), (Jvm.Cond.soleField "TextEngineModel" "columns"), (Jvm.Cond.laysFinal "TextEngineModel" "TextEngineModel" "rows" "[I"), (Jvm.Cond.soleField "TextEngineModel" "rows"), (Jvm.Cond.laysFinal "TextEngineModel" "TextEngineModel" "packing" "[I"), (Jvm.Cond.soleField "TextEngineModel" "packing"), (Jvm.Cond.laysFinal "TextEngineModel" "TextEngineModel" "offset" "[I"), (Jvm.Cond.soleField "TextEngineModel" "offset"), (Jvm.Cond.lays "TextEngineModel" "TextEngineModel" "pairs" "I"), (Jvm.Cond.soleField "TextEngineModel" "pairs"), (Jvm.Cond.lays "TextEngineModel" "TextEngineModel" "tensors" "I"), (Jvm.Cond.soleField "TextEngineModel" "tensors"), (Jvm.Cond.laysFinal "TextEngineModel" "TextEngineModel" "say" "[I"), (Jvm.Cond.soleField "TextEngineModel" "say"), (Jvm.Cond.laysFinal "TextEngineModel" "TextEngineModel" "tokenAt" "[I"), (Jvm.Cond.soleField "TextEngineModel" "tokenAt")]
set_option maxRecDepth 100000 in
theorem xqe_4 : tables_1_4 = xq_27 ++ (xq_28 ++ (xq_29 ++ (xq_30 ++ (xq_31 ++ (xq_32 ++ (xq_33 ++ (xq_34))))))) := rfl
theorem xqi_27 {w : Cond} (h : w ∈ xq_27) : w ∈ lw_tbl := (List.mem_append_right _ (List.mem_append_right _ (List.mem_append_right _ (List.mem_append_right _ (List.mem_append_left _ (by rw [xqe_4]; exact (List.mem_append_left _ h)))))))
theorem xw27 (i : Nat) {w : Cond} (h : xq_27[i]? = some w) (g : goodWord w = true) : w ∈ xTB := List.mem_filter.mpr ⟨xqi_27 (List.mem_of_getElem? h), g⟩
theorem xqi_28 {w : Cond} (h : w ∈ xq_28) : w ∈ lw_tbl := (List.mem_append_right _ (List.mem_append_right _ (List.mem_append_right _ (List.mem_append_right _ (List.mem_append_left _ (by rw [xqe_4]; exact (List.mem_append_right _ (List.mem_append_left _ h))))))))
theorem xw28 (i : Nat) {w : Cond} (h : xq_28[i]? = some w) (g : goodWord w = true) : w ∈ xTB := List.mem_filter.mpr ⟨xqi_28 (List.mem_of_getElem? h), g⟩
theorem xqi_29 {w : Cond} (h : w ∈ xq_29) : w ∈ lw_tbl := (List.mem_append_right _ (List.mem_append_right _ (List.mem_append_right _ (List.mem_append_right _ (List.mem_append_left _ (by rw [xqe_4]; exact (List.mem_append_right _ (List.mem_append_right _ (List.mem_append_left _ h)))))))))
theorem xw29 (i : Nat) {w : Cond} (h : xq_29[i]? = some w) (g : goodWord w = true) : w ∈ xTB := List.mem_filter.mpr ⟨xqi_29 (List.mem_of_getElem? h), g⟩
theorem xqi_30 {w : Cond} (h : w ∈ xq_30) : w ∈ lw_tbl := (List.mem_append_right _ (List.mem_append_right _ (List.mem_append_right _ (List.mem_append_right _ (List.mem_append_left _ (by rw [xqe_4]; exact (List.mem_append_right _ (List.mem_append_right _ (List.mem_append_right _ (List.mem_append_left _ h))))))))))
theorem xw30 (i : Nat) {w : Cond} (h : xq_30[i]? = some w) (g : goodWord w = true) : w ∈ xTB := List.mem_filter.mpr ⟨xqi_30 (List.mem_of_getElem? h), g⟩
theorem xqi_31 {w : Cond} (h : w ∈ xq_31) : w ∈ lw_tbl := (List.mem_append_right _ (List.mem_append_right _ (List.mem_append_right _ (List.mem_append_right _ (List.mem_append_left _ (by rw [xqe_4]; exact (List.mem_append_right _ (List.mem_append_right _ (List.mem_append_right _ (List.mem_append_right _ (List.mem_append_left _ h)))))))))))
theorem xw31 (i : Nat) {w : Cond} (h : xq_31[i]? = some w) (g : goodWord w = true) : w ∈ xTB := List.mem_filter.mpr ⟨xqi_31 (List.mem_of_getElem? h), g⟩
theorem xqi_32 {w : Cond} (h : w ∈ xq_32) : w ∈ lw_tbl := (List.mem_append_right _ (List.mem_append_right _ (List.mem_append_right _ (List.mem_append_right _ (List.mem_append_left _ (by rw [xqe_4]; exact (List.mem_append_right _ (List.mem_append_right _ (List.mem_append_right _ (List.mem_append_right _ (List.mem_append_right _ (List.mem_append_left _ h))))))))))))
theorem xw32 (i : Nat) {w : Cond} (h : xq_32[i]? = some w) (g : goodWord w = true) : w ∈ xTB := List.mem_filter.mpr ⟨xqi_32 (List.mem_of_getElem? h), g⟩
theorem xqi_33 {w : Cond} (h : w ∈ xq_33) : w ∈ lw_tbl := (List.mem_append_right _ (List.mem_append_right _ (List.mem_append_right _ (List.mem_append_right _ (List.mem_append_left _ (by rw [xqe_4]; exact (List.mem_append_right _ (List.mem_append_right _ (List.mem_append_right _ (List.mem_append_right _ (List.mem_append_right _ (List.mem_append_right _ (List.mem_append_left _ h)))))))))))))
theorem xw33 (i : Nat) {w : Cond} (h : xq_33[i]? = some w) (g : goodWord w = true) : w ∈ xTB := List.mem_filter.mpr ⟨xqi_33 (List.mem_of_getElem? h), g⟩
theorem xqi_34 {w : Cond} (h : w ∈ xq_34) : w ∈ lw_tbl := (List.mem_append_right _ (List.mem_append_right _ (List.mem_append_right _ (List.mem_append_right _ (List.mem_append_left _ (by rw [xqe_4]; exact (List.mem_append_right _ (List.mem_append_right _ (List.mem_append_right _ (List.mem_append_right _ (List.mem_append_right _ (List.mem_append_right _ (List.mem_append_right _ h)))))))))))))
theorem xw34 (i : Nat) {w : Cond} (h : xq_34[i]? = some w) (g : goodWord w = true) : w ∈ xTB := List.mem_filter.mpr ⟨xqi_34 (List.mem_of_getElem? h), g⟩
def xq_35 : List Cond := [(Jvm.Cond.laysFinal "TextEngineModel" "TextEngineModel" "mergeOne" "[I"), (Jvm.Cond.soleField "TextEngineModel" "mergeOne"), (Jvm.Cond.laysFinal "TextEngineModel" "TextEngineModel" "mergeTwo" "[I"), (Jvm.Cond.soleField "TextEngineModel" "mergeTwo"), (Jvm.Cond.laysFinal "TextEngineModel" "TextEngineModel" "mergeTo" "[I"), (Jvm.Cond.soleField "TextEngineModel" "mergeTo"), (Jvm.Cond.laysFinal "TextEngineModel" "TextEngineModel" "needed" "[I"), (Jvm.Cond.soleField "TextEngineModel" "needed"), (Jvm.Cond.laysFinal "TextEngineModel" "TextEngineModel" "keyed" "[I"), (Jvm.Cond.soleField "TextEngineModel" "keyed"), (Jvm.Cond.lays "TextEngineModel" "TextEngineModel" "tokens" "I"), (Jvm.Cond.soleField "TextEngineModel" "tokens"), (Jvm.Cond.lays "TextEngineModel" "TextEngineModel" "merges" "I"), (Jvm.Cond.soleField "TextEngineModel" "merges"), (Jvm.Cond.lays "TextEngineModel" "TextEngineModel" "dataAt" "I"), (Jvm.Cond.soleField "TextEngineModel" "dataAt"), (Jvm.Cond.lays "TextEngineModel" "TextEngineModel" "epsilon" "F"), (Jvm.Cond.soleField "TextEngineModel" "epsilon"), (Jvm.Cond.lays "TextEngineModel" "TextEngineModel" "turn" "F"), (Jvm.Cond.soleField "TextEngineModel" "turn"), (Jvm.Cond.laysFinal "TextEngineModel" "TextEngineModel" "fact" "[I"), (Jvm.Cond.soleField "TextEngineModel" "fact"), (Jvm.Cond.laysFinal "TextEngineModel" "TextEngineModel" "letters" "[I"), (Jvm.Cond.soleField "TextEngineModel" "letters"), (Jvm.Cond.laysFinal "TextEngineModel" "TextEngineModel" "letterSize" "[I"), (Jvm.Cond.soleField "TextEngineModel" "letterSize"), (Jvm.Cond.laysFinal "TextEngineModel" "TextEngineModel" "one" "[I"), (Jvm.Cond.soleField "TextEngineModel" "one"), (Jvm.Cond.laysFinal "TextEngineModel" "TextEngineModel" "two" "[I"), (Jvm.Cond.soleField "TextEngineModel" "two"), (Jvm.Cond.laysFinal "TextEngineModel" "TextEngineModel" "to" "[I"), (Jvm.Cond.soleField "TextEngineModel" "to")]
def xq_36 : List Cond := [(Jvm.Cond.laysFinal "TextEngineModel" "TextEngineModel" "tensor" "[I"), (Jvm.Cond.soleField "TextEngineModel" "tensor"), (Jvm.Cond.laysFinal "TextEngineModel" "TextEngineModel" "wide" "[I"), (Jvm.Cond.soleField "TextEngineModel" "wide"), (Jvm.Cond.laysFinal "TextEngineModel" "TextEngineModel" "high" "[I"), (Jvm.Cond.soleField "TextEngineModel" "high"), (Jvm.Cond.laysFinal "TextEngineModel" "TextEngineModel" "begins" "[I"), (Jvm.Cond.soleField "TextEngineModel" "begins"), (Jvm.Cond.laysFinal "TextEngineModel" "TextEngineModel" "weights" "[F"), (Jvm.Cond.soleField "TextEngineModel" "weights"), (Jvm.Cond.lays "TextEngineModel" "TextEngineModel" "has" "Z"), (Jvm.Cond.soleField "TextEngineModel" "has"), (Jvm.Cond.lays "TextEngineModel" "TextEngineModel" "eps" "F"), (Jvm.Cond.soleField "TextEngineModel" "eps"), (Jvm.Cond.lays "TextEngineModel" "TextEngineModel" "base" "F"), (Jvm.Cond.soleField "TextEngineModel" "base"), (Jvm.Cond.laysFinal "TextEngineModel" "TextEngineModel" "text" "[I"), (Jvm.Cond.soleField "TextEngineModel" "text"), (Jvm.Cond.laysFinal "TextEngineModel" "TextEngineModel" "encoded" "[I"), (Jvm.Cond.soleField "TextEngineModel" "encoded"), (Jvm.Cond.laysFinal "TextEngineModel" "TextEngineModel" "told" "[I"), (Jvm.Cond.soleField "TextEngineModel" "told"), (Jvm.Cond.laysFinal "TextEngineModel" "TextEngineModel" "order" "[I"), (Jvm.Cond.soleField "TextEngineModel" "order"), (Jvm.Cond.laysFinal "TextEngineModel" "TextEngineModel" "x" "[F"), (Jvm.Cond.soleField "TextEngineModel" "x"), (Jvm.Cond.laysFinal "TextEngineModel" "TextEngineModel" "y" "[F"), (Jvm.Cond.soleField "TextEngineModel" "y"), (Jvm.Cond.laysFinal "TextEngineModel" "TextEngineModel" "q" "[F"), (Jvm.Cond.soleField "TextEngineModel" "q"), (Jvm.Cond.laysFinal "TextEngineModel" "TextEngineModel" "k" "[F"), (Jvm.Cond.soleField "TextEngineModel" "k")]
def xq_37 : List Cond := [(Jvm.Cond.laysFinal "TextEngineModel" "TextEngineModel" "v" "[F"), (Jvm.Cond.soleField "TextEngineModel" "v"), (Jvm.Cond.laysFinal "TextEngineModel" "TextEngineModel" "w" "[F"), (Jvm.Cond.soleField "TextEngineModel" "w"), (Jvm.Cond.laysFinal "TextEngineModel" "TextEngineModel" "g" "[F"), (Jvm.Cond.soleField "TextEngineModel" "g"), (Jvm.Cond.laysFinal "TextEngineModel" "TextEngineModel" "u" "[F"), (Jvm.Cond.soleField "TextEngineModel" "u"), (Jvm.Cond.laysFinal "TextEngineModel" "TextEngineModel" "z" "[F"), (Jvm.Cond.soleField "TextEngineModel" "z"), (Jvm.Cond.laysFinal "TextEngineModel" "TextEngineModel" "keys" "[F"), (Jvm.Cond.soleField "TextEngineModel" "keys"), (Jvm.Cond.laysFinal "TextEngineModel" "TextEngineModel" "values" "[F"), (Jvm.Cond.soleField "TextEngineModel" "values"), (Jvm.Cond.laysFinal "TextEngineModel" "TextEngineModel" "logits" "[F"), (Jvm.Cond.soleField "TextEngineModel" "logits"), (Jvm.Cond.laysFinal "TextEngineModel" "TextEngineModel" "chances" "[F"), (Jvm.Cond.soleField "TextEngineModel" "chances"), (Jvm.Cond.lays "TextEngineModel" "TextEngineModel" "texts" "I"), (Jvm.Cond.soleField "TextEngineModel" "texts"), (Jvm.Cond.lays "TextEngineModel" "TextEngineModel" "encodes" "I"), (Jvm.Cond.soleField "TextEngineModel" "encodes"), (Jvm.Cond.lays "TextEngineModel" "TextEngineModel" "steps" "I"), (Jvm.Cond.soleField "TextEngineModel" "steps"), (Jvm.Cond.lays "TextEngineModel" "TextEngineModel" "says" "I"), (Jvm.Cond.soleField "TextEngineModel" "says"), (Jvm.Cond.lays "TextEngineModel" "TextEngineModel" "seed" "J"), (Jvm.Cond.soleField "TextEngineModel" "seed"), (Jvm.Cond.superclass "TextEngineModel" "java/lang/Object"), (Jvm.Cond.methodLink "TextEngineLaw" (19 : Nat) ({ cls := "TextEngineModel", name := "file", desc := "(JI)I" } : Jvm.MethodName)), (Jvm.Cond.instanceMethod ({ cls := "TextEngineModel", name := "file", desc := "(JI)I" } : Jvm.MethodName)), (Jvm.Cond.selects "TextEngineModel" ({ cls := "TextEngineModel", name := "file", desc := "(JI)I" } : Jvm.MethodName) ({ cls := "TextEngineModel", name := "file", desc := "(JI)I" } : Jvm.MethodName))]
def xq_38 : List Cond := [(Jvm.Cond.code ({ cls := "TextEngineModel", name := "file", desc := "(JI)I" } : Jvm.MethodName) prog_13_method_3_code (5 : Nat) (Option.some Jvm.ClassFile.FieldType.int)), (Jvm.Cond.methodLink "TextEngineModel" (151 : Nat) ({ cls := "TextEngineModel", name := "in", desc := "(III)Z" } : Jvm.MethodName)), (Jvm.Cond.static ({ cls := "TextEngineModel", name := "in", desc := "(III)Z" } : Jvm.MethodName)), (Jvm.Cond.code ({ cls := "TextEngineModel", name := "in", desc := "(III)Z" } : Jvm.MethodName) prog_13_method_2_code (3 : Nat) (Option.some Jvm.ClassFile.FieldType.boolean)), (Jvm.Cond.constantLong "TextEngineModel" (158 : Nat) (255 : Int64)), (Jvm.Cond.methodLink "TextEngineLaw" (24 : Nat) ({ cls := "TextEngineModel", name := "flip", desc := "(II)I" } : Jvm.MethodName)), (Jvm.Cond.instanceMethod ({ cls := "TextEngineModel", name := "flip", desc := "(II)I" } : Jvm.MethodName)), (Jvm.Cond.selects "TextEngineModel" ({ cls := "TextEngineModel", name := "flip", desc := "(II)I" } : Jvm.MethodName) ({ cls := "TextEngineModel", name := "flip", desc := "(II)I" } : Jvm.MethodName)), (Jvm.Cond.code ({ cls := "TextEngineModel", name := "flip", desc := "(II)I" } : Jvm.MethodName) prog_13_method_4_code (3 : Nat) (Option.some Jvm.ClassFile.FieldType.int)), (Jvm.Cond.methodLink "TextEngineLaw" (29 : Nat) ({ cls := "TextEngineModel", name := "clear", desc := "()I" } : Jvm.MethodName)), (Jvm.Cond.instanceMethod ({ cls := "TextEngineModel", name := "clear", desc := "()I" } : Jvm.MethodName)), (Jvm.Cond.selects "TextEngineModel" ({ cls := "TextEngineModel", name := "clear", desc := "()I" } : Jvm.MethodName) ({ cls := "TextEngineModel", name := "clear", desc := "()I" } : Jvm.MethodName)), (Jvm.Cond.code ({ cls := "TextEngineModel", name := "clear", desc := "()I" } : Jvm.MethodName) prog_13_method_5_code (2 : Nat) (Option.some Jvm.ClassFile.FieldType.int)), (Jvm.Cond.methodLink "TextEngineLaw" (33 : Nat) ({ cls := "TextEngineModel", name := "load", desc := "()I" } : Jvm.MethodName)), (Jvm.Cond.instanceMethod ({ cls := "TextEngineModel", name := "load", desc := "()I" } : Jvm.MethodName)), (Jvm.Cond.selects "TextEngineModel" ({ cls := "TextEngineModel", name := "load", desc := "()I" } : Jvm.MethodName) ({ cls := "TextEngineModel", name := "load", desc := "()I" } : Jvm.MethodName)), (Jvm.Cond.code ({ cls := "TextEngineModel", name := "load", desc := "()I" } : Jvm.MethodName) prog_13_method_30_code (1 : Nat) (Option.some Jvm.ClassFile.FieldType.int)), (Jvm.Cond.methodLink "TextEngineModel" (317 : Nat) ({ cls := "TextEngineModel", name := "parse", desc := "()V" } : Jvm.MethodName)), (Jvm.Cond.privateMethod ({ cls := "TextEngineModel", name := "parse", desc := "()V" } : Jvm.MethodName)), (Jvm.Cond.instanceMethod ({ cls := "TextEngineModel", name := "parse", desc := "()V" } : Jvm.MethodName)), (Jvm.Cond.code ({ cls := "TextEngineModel", name := "parse", desc := "()V" } : Jvm.MethodName) prog_13_method_15_code (5 : Nat) (Option.none : Option Jvm.ClassFile.FieldType)), (Jvm.Cond.methodLink "TextEngineModel" (173 : Nat) ({ cls := "TextEngineModel", name := "read", desc := "(I)I" } : Jvm.MethodName)), (Jvm.Cond.privateMethod ({ cls := "TextEngineModel", name := "read", desc := "(I)I" } : Jvm.MethodName)), (Jvm.Cond.instanceMethod ({ cls := "TextEngineModel", name := "read", desc := "(I)I" } : Jvm.MethodName)), (Jvm.Cond.code ({ cls := "TextEngineModel", name := "read", desc := "(I)I" } : Jvm.MethodName) prog_13_method_8_code (2 : Nat) (Option.some Jvm.ClassFile.FieldType.int)), (Jvm.Cond.methodLink "TextEngineModel" (166 : Nat) ({ cls := "TextEngineModel", name := "bad", desc := "(ZII)V" } : Jvm.MethodName)), (Jvm.Cond.privateMethod ({ cls := "TextEngineModel", name := "bad", desc := "(ZII)V" } : Jvm.MethodName)), (Jvm.Cond.instanceMethod ({ cls := "TextEngineModel", name := "bad", desc := "(ZII)V" } : Jvm.MethodName)), (Jvm.Cond.code ({ cls := "TextEngineModel", name := "bad", desc := "(ZII)V" } : Jvm.MethodName) prog_13_method_7_code (4 : Nat) (Option.none : Option Jvm.ClassFile.FieldType)), (Jvm.Cond.methodLink "TextEngineModel" (170 : Nat) ({ cls := "TextEngineModel", name := "u", desc := "(II)I" } : Jvm.MethodName)), (Jvm.Cond.privateMethod ({ cls := "TextEngineModel", name := "u", desc := "(II)I" } : Jvm.MethodName)), (Jvm.Cond.instanceMethod ({ cls := "TextEngineModel", name := "u", desc := "(II)I" } : Jvm.MethodName))]
def xq_39 : List Cond := [(Jvm.Cond.code ({ cls := "TextEngineModel", name := "u", desc := "(II)I" } : Jvm.MethodName) prog_13_method_6_code (5 : Nat) (Option.some Jvm.ClassFile.FieldType.int)), (Jvm.Cond.constant "TextEngineModel" (192 : Nat) (1179993927 : Int32)), (Jvm.Cond.methodLink "TextEngineModel" (189 : Nat) ({ cls := "TextEngineModel", name := "many", desc := "(I)I" } : Jvm.MethodName)), (Jvm.Cond.privateMethod ({ cls := "TextEngineModel", name := "many", desc := "(I)I" } : Jvm.MethodName)), (Jvm.Cond.instanceMethod ({ cls := "TextEngineModel", name := "many", desc := "(I)I" } : Jvm.MethodName)), (Jvm.Cond.code ({ cls := "TextEngineModel", name := "many", desc := "(I)I" } : Jvm.MethodName) prog_13_method_12_code (4 : Nat) (Option.some Jvm.ClassFile.FieldType.int)), (Jvm.Cond.methodLink "TextEngineModel" (177 : Nat) ({ cls := "TextEngineModel", name := "string", desc := "(Z)V" } : Jvm.MethodName)), (Jvm.Cond.privateMethod ({ cls := "TextEngineModel", name := "string", desc := "(Z)V" } : Jvm.MethodName)), (Jvm.Cond.instanceMethod ({ cls := "TextEngineModel", name := "string", desc := "(Z)V" } : Jvm.MethodName)), (Jvm.Cond.code ({ cls := "TextEngineModel", name := "string", desc := "(Z)V" } : Jvm.MethodName) prog_13_method_9_code (4 : Nat) (Option.none : Option Jvm.ClassFile.FieldType)), (Jvm.Cond.methodLink "TextEngineModel" (199 : Nat) ({ cls := "TextEngineModel", name := "alike", desc := "(II)Z" } : Jvm.MethodName)), (Jvm.Cond.privateMethod ({ cls := "TextEngineModel", name := "alike", desc := "(II)Z" } : Jvm.MethodName)), (Jvm.Cond.instanceMethod ({ cls := "TextEngineModel", name := "alike", desc := "(II)Z" } : Jvm.MethodName)), (Jvm.Cond.code ({ cls := "TextEngineModel", name := "alike", desc := "(II)Z" } : Jvm.MethodName) prog_13_method_10_code (4 : Nat) (Option.some Jvm.ClassFile.FieldType.boolean)), (Jvm.Cond.methodLink "TextEngineModel" (185 : Nat) ({ cls := "TextEngineModel", name := "kind", desc := "()I" } : Jvm.MethodName)), (Jvm.Cond.privateMethod ({ cls := "TextEngineModel", name := "kind", desc := "()I" } : Jvm.MethodName)), (Jvm.Cond.instanceMethod ({ cls := "TextEngineModel", name := "kind", desc := "()I" } : Jvm.MethodName)), (Jvm.Cond.code ({ cls := "TextEngineModel", name := "kind", desc := "()I" } : Jvm.MethodName) prog_13_method_11_code (3 : Nat) (Option.some Jvm.ClassFile.FieldType.int)), (Jvm.Cond.methodLink "TextEngineModel" (203 : Nat) ({ cls := "TextEngineModel", name := "value", desc := "(I)V" } : Jvm.MethodName)), (Jvm.Cond.privateMethod ({ cls := "TextEngineModel", name := "value", desc := "(I)V" } : Jvm.MethodName)), (Jvm.Cond.instanceMethod ({ cls := "TextEngineModel", name := "value", desc := "(I)V" } : Jvm.MethodName)), (Jvm.Cond.code ({ cls := "TextEngineModel", name := "value", desc := "(I)V" } : Jvm.MethodName) prog_13_method_14_code (12 : Nat) (Option.none : Option Jvm.ClassFile.FieldType)), (Jvm.Cond.methodLink "TextEngineModel" (181 : Nat) ({ cls := "TextEngineModel", name := "plain", desc := "(I)V" } : Jvm.MethodName)), (Jvm.Cond.privateMethod ({ cls := "TextEngineModel", name := "plain", desc := "(I)V" } : Jvm.MethodName)), (Jvm.Cond.instanceMethod ({ cls := "TextEngineModel", name := "plain", desc := "(I)V" } : Jvm.MethodName)), (Jvm.Cond.code ({ cls := "TextEngineModel", name := "plain", desc := "(I)V" } : Jvm.MethodName) prog_13_method_13_code (2 : Nat) (Option.none : Option Jvm.ClassFile.FieldType)), (Jvm.Cond.methodLink "TextEngineModel" (206 : Nat) ({ cls := "TextEngineModel", name := "info", desc := "(I)V" } : Jvm.MethodName)), (Jvm.Cond.privateMethod ({ cls := "TextEngineModel", name := "info", desc := "(I)V" } : Jvm.MethodName)), (Jvm.Cond.instanceMethod ({ cls := "TextEngineModel", name := "info", desc := "(I)V" } : Jvm.MethodName)), (Jvm.Cond.code ({ cls := "TextEngineModel", name := "info", desc := "(I)V" } : Jvm.MethodName) prog_13_method_16_code (5 : Nat) (Option.none : Option Jvm.ClassFile.FieldType)), (Jvm.Cond.methodLink "TextEngineModel" (320 : Nat) ({ cls := "TextEngineModel", name := "look", desc := "()V" } : Jvm.MethodName)), (Jvm.Cond.privateMethod ({ cls := "TextEngineModel", name := "look", desc := "()V" } : Jvm.MethodName))]
def xq_40 : List Cond := [(Jvm.Cond.instanceMethod ({ cls := "TextEngineModel", name := "look", desc := "()V" } : Jvm.MethodName)), (Jvm.Cond.code ({ cls := "TextEngineModel", name := "look", desc := "()V" } : Jvm.MethodName) prog_13_method_20_code (8 : Nat) (Option.none : Option Jvm.ClassFile.FieldType)), (Jvm.Cond.constantLong "TextEngineModel" (215 : Nat) (7170404 : Int64)), (Jvm.Cond.methodLink "TextEngineModel" (217 : Nat) ({ cls := "TextEngineModel", name := "key", desc := "(JII)I" } : Jvm.MethodName)), (Jvm.Cond.privateMethod ({ cls := "TextEngineModel", name := "key", desc := "(JII)I" } : Jvm.MethodName)), (Jvm.Cond.instanceMethod ({ cls := "TextEngineModel", name := "key", desc := "(JII)I" } : Jvm.MethodName)), (Jvm.Cond.code ({ cls := "TextEngineModel", name := "key", desc := "(JII)I" } : Jvm.MethodName) prog_13_method_18_code (6 : Nat) (Option.some Jvm.ClassFile.FieldType.int)), (Jvm.Cond.methodLink "TextEngineModel" (209 : Nat) ({ cls := "TextEngineModel", name := "is", desc := "(IJI)Z" } : Jvm.MethodName)), (Jvm.Cond.privateMethod ({ cls := "TextEngineModel", name := "is", desc := "(IJI)Z" } : Jvm.MethodName)), (Jvm.Cond.instanceMethod ({ cls := "TextEngineModel", name := "is", desc := "(IJI)Z" } : Jvm.MethodName)), (Jvm.Cond.code ({ cls := "TextEngineModel", name := "is", desc := "(IJI)Z" } : Jvm.MethodName) prog_13_method_17_code (6 : Nat) (Option.some Jvm.ClassFile.FieldType.boolean)), (Jvm.Cond.constantLong "TextEngineModel" (221 : Nat) (495605343592 : Int64)), (Jvm.Cond.constantLong "TextEngineModel" (223 : Nat) (30315 : Int64)), (Jvm.Cond.constantLong "TextEngineModel" (225 : Nat) (126935165919596 : Int64)), (Jvm.Cond.constantLong "TextEngineModel" (227 : Nat) (7235174 : Int64)), (Jvm.Cond.constantLong "TextEngineModel" (229 : Nat) (7894115 : Int64)), (Jvm.Cond.constantLong "TextEngineModel" (231 : Nat) (7565413 : Int64)), (Jvm.Cond.constantLong "TextEngineModel" (233 : Nat) (1702060386 : Int64)), (Jvm.Cond.constantLong "TextEngineModel" (235 : Nat) (126917985136500 : Int64)), (Jvm.Cond.constantLong "TextEngineModel" (237 : Nat) (126879364441453 : Int64)), (Jvm.Cond.constantLong "TextEngineModel" (239 : Nat) (1886352499 : Int64)), (Jvm.Cond.methodLink "TextEngineModel" (241 : Nat) ({ cls := "TextEngineModel", name := "typesFit", desc := "(II)Z" } : Jvm.MethodName)), (Jvm.Cond.privateMethod ({ cls := "TextEngineModel", name := "typesFit", desc := "(II)Z" } : Jvm.MethodName)), (Jvm.Cond.instanceMethod ({ cls := "TextEngineModel", name := "typesFit", desc := "(II)Z" } : Jvm.MethodName)), (Jvm.Cond.code ({ cls := "TextEngineModel", name := "typesFit", desc := "(II)Z" } : Jvm.MethodName) prog_13_method_21_code (5 : Nat) (Option.some Jvm.ClassFile.FieldType.boolean)), (Jvm.Cond.methodLink "TextEngineModel" (244 : Nat) ({ cls := "TextEngineModel", name := "half", desc := "(I)J" } : Jvm.MethodName)), (Jvm.Cond.privateMethod ({ cls := "TextEngineModel", name := "half", desc := "(I)J" } : Jvm.MethodName)), (Jvm.Cond.instanceMethod ({ cls := "TextEngineModel", name := "half", desc := "(I)J" } : Jvm.MethodName)), (Jvm.Cond.code ({ cls := "TextEngineModel", name := "half", desc := "(I)J" } : Jvm.MethodName) prog_13_method_19_code (7 : Nat) (Option.some Jvm.ClassFile.FieldType.long)), (Jvm.Cond.constantLong "TextEngineModel" (213 : Nat) (1125899906842624 : Int64)), (Jvm.Cond.constantLong "TextEngineModel" (248 : Nat) (16777216 : Int64)), (Jvm.Cond.constantLong "TextEngineModel" (250 : Nat) (16 : Int64))]
def xq_41 : List Cond := [(Jvm.Cond.constantFloat "TextEngineModel" (252 : Nat) (1266679808 : UInt32)), (Jvm.Cond.methodLink "TextEngineModel" (260 : Nat) ({ cls := "TextEngineModel", name := "texts", desc := "(I)Z" } : Jvm.MethodName)), (Jvm.Cond.privateMethod ({ cls := "TextEngineModel", name := "texts", desc := "(I)Z" } : Jvm.MethodName)), (Jvm.Cond.instanceMethod ({ cls := "TextEngineModel", name := "texts", desc := "(I)Z" } : Jvm.MethodName)), (Jvm.Cond.code ({ cls := "TextEngineModel", name := "texts", desc := "(I)Z" } : Jvm.MethodName) prog_13_method_23_code (5 : Nat) (Option.some Jvm.ClassFile.FieldType.boolean)), (Jvm.Cond.methodLink "TextEngineModel" (264 : Nat) ({ cls := "TextEngineModel", name := "pairsOf", desc := "(I)Z" } : Jvm.MethodName)), (Jvm.Cond.privateMethod ({ cls := "TextEngineModel", name := "pairsOf", desc := "(I)Z" } : Jvm.MethodName)), (Jvm.Cond.instanceMethod ({ cls := "TextEngineModel", name := "pairsOf", desc := "(I)Z" } : Jvm.MethodName)), (Jvm.Cond.code ({ cls := "TextEngineModel", name := "pairsOf", desc := "(I)Z" } : Jvm.MethodName) prog_13_method_24_code (4 : Nat) (Option.some Jvm.ClassFile.FieldType.boolean)), (Jvm.Cond.methodLink "TextEngineModel" (278 : Nat) ({ cls := "TextEngineModel", name := "together", desc := "(II)I" } : Jvm.MethodName)), (Jvm.Cond.privateMethod ({ cls := "TextEngineModel", name := "together", desc := "(II)I" } : Jvm.MethodName)), (Jvm.Cond.instanceMethod ({ cls := "TextEngineModel", name := "together", desc := "(II)I" } : Jvm.MethodName)), (Jvm.Cond.code ({ cls := "TextEngineModel", name := "together", desc := "(II)I" } : Jvm.MethodName) prog_13_method_25_code (7 : Nat) (Option.some Jvm.ClassFile.FieldType.int)), (Jvm.Cond.methodLink "TextEngineModel" (270 : Nat) ({ cls := "TextEngineModel", name := "align", desc := "()V" } : Jvm.MethodName)), (Jvm.Cond.privateMethod ({ cls := "TextEngineModel", name := "align", desc := "()V" } : Jvm.MethodName)), (Jvm.Cond.instanceMethod ({ cls := "TextEngineModel", name := "align", desc := "()V" } : Jvm.MethodName)), (Jvm.Cond.code ({ cls := "TextEngineModel", name := "align", desc := "()V" } : Jvm.MethodName) prog_13_method_22_code (2 : Nat) (Option.none : Option Jvm.ClassFile.FieldType)), (Jvm.Cond.constantLong "TextEngineModel" (273 : Nat) (474181364833 : Int64)), (Jvm.Cond.methodLink "TextEngineModel" (323 : Nat) ({ cls := "TextEngineModel", name := "shapes", desc := "()V" } : Jvm.MethodName)), (Jvm.Cond.privateMethod ({ cls := "TextEngineModel", name := "shapes", desc := "()V" } : Jvm.MethodName)), (Jvm.Cond.instanceMethod ({ cls := "TextEngineModel", name := "shapes", desc := "()V" } : Jvm.MethodName)), (Jvm.Cond.code ({ cls := "TextEngineModel", name := "shapes", desc := "()V" } : Jvm.MethodName) prog_13_method_27_code (8 : Nat) (Option.none : Option Jvm.ClassFile.FieldType)), (Jvm.Cond.constantLong "TextEngineModel" (281 : Nat) (431197678949 : Int64)), (Jvm.Cond.methodLink "TextEngineModel" (283 : Nat) ({ cls := "TextEngineModel", name := "need", desc := "(IJIII)V" } : Jvm.MethodName)), (Jvm.Cond.privateMethod ({ cls := "TextEngineModel", name := "need", desc := "(IJIII)V" } : Jvm.MethodName)), (Jvm.Cond.instanceMethod ({ cls := "TextEngineModel", name := "need", desc := "(IJIII)V" } : Jvm.MethodName)), (Jvm.Cond.code ({ cls := "TextEngineModel", name := "need", desc := "(IJIII)V" } : Jvm.MethodName) prog_13_method_26_code (9 : Nat) (Option.none : Option Jvm.ClassFile.FieldType)), (Jvm.Cond.constantLong "TextEngineModel" (287 : Nat) (1836216174 : Int64)), (Jvm.Cond.constantLong "TextEngineModel" (289 : Nat) (7632239 : Int64)), (Jvm.Cond.constantLong "TextEngineModel" (291 : Nat) (48 : Int64)), (Jvm.Cond.constantLong "TextEngineModel" (293 : Nat) (97 : Int64)), (Jvm.Cond.constantLong "TextEngineModel" (295 : Nat) (113 : Int64))]
def xq_42 : List Cond := [(Jvm.Cond.constantLong "TextEngineModel" (297 : Nat) (107 : Int64)), (Jvm.Cond.constantLong "TextEngineModel" (299 : Nat) (118 : Int64)), (Jvm.Cond.constantLong "TextEngineModel" (301 : Nat) (111 : Int64)), (Jvm.Cond.constantLong "TextEngineModel" (303 : Nat) (102 : Int64)), (Jvm.Cond.constantLong "TextEngineModel" (305 : Nat) (103 : Int64)), (Jvm.Cond.constantLong "TextEngineModel" (307 : Nat) (117 : Int64)), (Jvm.Cond.constantLong "TextEngineModel" (309 : Nat) (100 : Int64)), (Jvm.Cond.methodLink "TextEngineModel" (326 : Nat) ({ cls := "TextEngineModel", name := "places", desc := "()V" } : Jvm.MethodName)), (Jvm.Cond.privateMethod ({ cls := "TextEngineModel", name := "places", desc := "()V" } : Jvm.MethodName)), (Jvm.Cond.instanceMethod ({ cls := "TextEngineModel", name := "places", desc := "()V" } : Jvm.MethodName)), (Jvm.Cond.code ({ cls := "TextEngineModel", name := "places", desc := "()V" } : Jvm.MethodName) prog_13_method_29_code (8 : Nat) (Option.none : Option Jvm.ClassFile.FieldType)), (Jvm.Cond.methodLink "TextEngineModel" (314 : Nat) ({ cls := "TextEngineModel", name := "octets", desc := "(I)I" } : Jvm.MethodName)), (Jvm.Cond.privateMethod ({ cls := "TextEngineModel", name := "octets", desc := "(I)I" } : Jvm.MethodName)), (Jvm.Cond.instanceMethod ({ cls := "TextEngineModel", name := "octets", desc := "(I)I" } : Jvm.MethodName)), (Jvm.Cond.code ({ cls := "TextEngineModel", name := "octets", desc := "(I)I" } : Jvm.MethodName) prog_13_method_28_code (2 : Nat) (Option.some Jvm.ClassFile.FieldType.int)), (Jvm.Cond.methodLink "TextEngineModel" (329 : Nat) ({ cls := "TextEngineModel", name := "take", desc := "()V" } : Jvm.MethodName))]
set_option maxRecDepth 100000 in
theorem xqe_5 : tables_1_5 = xq_35 ++ (xq_36 ++ (xq_37 ++ (xq_38 ++ (xq_39 ++ (xq_40 ++ (xq_41 ++ (xq_42))))))) := rfl
theorem xqi_35 {w : Cond} (h : w ∈ xq_35) : w ∈ lw_tbl := (List.mem_append_right _ (List.mem_append_right _ (List.mem_append_right _ (List.mem_append_right _ (List.mem_append_right _ (List.mem_append_left _ (by rw [xqe_5]; exact (List.mem_append_left _ h))))))))
theorem xw35 (i : Nat) {w : Cond} (h : xq_35[i]? = some w) (g : goodWord w = true) : w ∈ xTB := List.mem_filter.mpr ⟨xqi_35 (List.mem_of_getElem? h), g⟩
theorem xqi_36 {w : Cond} (h : w ∈ xq_36) : w ∈ lw_tbl := (List.mem_append_right _ (List.mem_append_right _ (List.mem_append_right _ (List.mem_append_right _ (List.mem_append_right _ (List.mem_append_left _ (by rw [xqe_5]; exact (List.mem_append_right _ (List.mem_append_left _ h)))))))))
theorem xw36 (i : Nat) {w : Cond} (h : xq_36[i]? = some w) (g : goodWord w = true) : w ∈ xTB := List.mem_filter.mpr ⟨xqi_36 (List.mem_of_getElem? h), g⟩
theorem xqi_37 {w : Cond} (h : w ∈ xq_37) : w ∈ lw_tbl := (List.mem_append_right _ (List.mem_append_right _ (List.mem_append_right _ (List.mem_append_right _ (List.mem_append_right _ (List.mem_append_left _ (by rw [xqe_5]; exact (List.mem_append_right _ (List.mem_append_right _ (List.mem_append_left _ h))))))))))
theorem xw37 (i : Nat) {w : Cond} (h : xq_37[i]? = some w) (g : goodWord w = true) : w ∈ xTB := List.mem_filter.mpr ⟨xqi_37 (List.mem_of_getElem? h), g⟩
theorem xqi_38 {w : Cond} (h : w ∈ xq_38) : w ∈ lw_tbl := (List.mem_append_right _ (List.mem_append_right _ (List.mem_append_right _ (List.mem_append_right _ (List.mem_append_right _ (List.mem_append_left _ (by rw [xqe_5]; exact (List.mem_append_right _ (List.mem_append_right _ (List.mem_append_right _ (List.mem_append_left _ h)))))))))))
theorem xw38 (i : Nat) {w : Cond} (h : xq_38[i]? = some w) (g : goodWord w = true) : w ∈ xTB := List.mem_filter.mpr ⟨xqi_38 (List.mem_of_getElem? h), g⟩
theorem xqi_39 {w : Cond} (h : w ∈ xq_39) : w ∈ lw_tbl := (List.mem_append_right _ (List.mem_append_right _ (List.mem_append_right _ (List.mem_append_right _ (List.mem_append_right _ (List.mem_append_left _ (by rw [xqe_5]; exact (List.mem_append_right _ (List.mem_append_right _ (List.mem_append_right _ (List.mem_append_right _ (List.mem_append_left _ h))))))))))))
theorem xw39 (i : Nat) {w : Cond} (h : xq_39[i]? = some w) (g : goodWord w = true) : w ∈ xTB := List.mem_filter.mpr ⟨xqi_39 (List.mem_of_getElem? h), g⟩
theorem xqi_40 {w : Cond} (h : w ∈ xq_40) : w ∈ lw_tbl := (List.mem_append_right _ (List.mem_append_right _ (List.mem_append_right _ (List.mem_append_right _ (List.mem_append_right _ (List.mem_append_left _ (by rw [xqe_5]; exact (List.mem_append_right _ (List.mem_append_right _ (List.mem_append_right _ (List.mem_append_right _ (List.mem_append_right _ (List.mem_append_left _ h)))))))))))))
theorem xw40 (i : Nat) {w : Cond} (h : xq_40[i]? = some w) (g : goodWord w = true) : w ∈ xTB := List.mem_filter.mpr ⟨xqi_40 (List.mem_of_getElem? h), g⟩
theorem xqi_41 {w : Cond} (h : w ∈ xq_41) : w ∈ lw_tbl := (List.mem_append_right _ (List.mem_append_right _ (List.mem_append_right _ (List.mem_append_right _ (List.mem_append_right _ (List.mem_append_left _ (by rw [xqe_5]; exact (List.mem_append_right _ (List.mem_append_right _ (List.mem_append_right _ (List.mem_append_right _ (List.mem_append_right _ (List.mem_append_right _ (List.mem_append_left _ h))))))))))))))
theorem xw41 (i : Nat) {w : Cond} (h : xq_41[i]? = some w) (g : goodWord w = true) : w ∈ xTB := List.mem_filter.mpr ⟨xqi_41 (List.mem_of_getElem? h), g⟩
theorem xqi_42 {w : Cond} (h : w ∈ xq_42) : w ∈ lw_tbl := (List.mem_append_right _ (List.mem_append_right _ (List.mem_append_right _ (List.mem_append_right _ (List.mem_append_right _ (List.mem_append_left _ (by rw [xqe_5]; exact (List.mem_append_right _ (List.mem_append_right _ (List.mem_append_right _ (List.mem_append_right _ (List.mem_append_right _ (List.mem_append_right _ (List.mem_append_right _ h))))))))))))))
theorem xw42 (i : Nat) {w : Cond} (h : xq_42[i]? = some w) (g : goodWord w = true) : w ∈ xTB := List.mem_filter.mpr ⟨xqi_42 (List.mem_of_getElem? h), g⟩
def xq_43 : List Cond := [(Jvm.Cond.privateMethod ({ cls := "TextEngineModel", name := "take", desc := "()V" } : Jvm.MethodName)), (Jvm.Cond.instanceMethod ({ cls := "TextEngineModel", name := "take", desc := "()V" } : Jvm.MethodName)), (Jvm.Cond.code ({ cls := "TextEngineModel", name := "take", desc := "()V" } : Jvm.MethodName) prog_13_method_31_code (4 : Nat) (Option.none : Option Jvm.ClassFile.FieldType)), (Jvm.Cond.methodLink "TextEngineModel" (342 : Nat) ({ cls := "TextEngineModel", name := "weigh", desc := "(II)F" } : Jvm.MethodName)), (Jvm.Cond.privateMethod ({ cls := "TextEngineModel", name := "weigh", desc := "(II)F" } : Jvm.MethodName)), (Jvm.Cond.instanceMethod ({ cls := "TextEngineModel", name := "weigh", desc := "(II)F" } : Jvm.MethodName)), (Jvm.Cond.code ({ cls := "TextEngineModel", name := "weigh", desc := "(II)F" } : Jvm.MethodName) prog_13_method_32_code (8 : Nat) (Option.some Jvm.ClassFile.FieldType.float)), (Jvm.Cond.methodLink "TextEngineModel" (346 : Nat) ({ cls := "TextEngineModel", name := "reset", desc := "()I" } : Jvm.MethodName)), (Jvm.Cond.instanceMethod ({ cls := "TextEngineModel", name := "reset", desc := "()I" } : Jvm.MethodName)), (Jvm.Cond.selects "TextEngineModel" ({ cls := "TextEngineModel", name := "reset", desc := "()I" } : Jvm.MethodName) ({ cls := "TextEngineModel", name := "reset", desc := "()I" } : Jvm.MethodName)), (Jvm.Cond.code ({ cls := "TextEngineModel", name := "reset", desc := "()I" } : Jvm.MethodName) prog_13_method_54_code (2 : Nat) (Option.some Jvm.ClassFile.FieldType.int)), (Jvm.Cond.methodLink "TextEngineLaw" (37 : Nat) ({ cls := "TextEngineModel", name := "place", desc := "()I" } : Jvm.MethodName)), (Jvm.Cond.instanceMethod ({ cls := "TextEngineModel", name := "place", desc := "()I" } : Jvm.MethodName)), (Jvm.Cond.selects "TextEngineModel" ({ cls := "TextEngineModel", name := "place", desc := "()I" } : Jvm.MethodName) ({ cls := "TextEngineModel", name := "place", desc := "()I" } : Jvm.MethodName)), (Jvm.Cond.code ({ cls := "TextEngineModel", name := "place", desc := "()I" } : Jvm.MethodName) prog_13_method_33_code (1 : Nat) (Option.some Jvm.ClassFile.FieldType.int)), (Jvm.Cond.methodLink "TextEngineLaw" (42 : Nat) ({ cls := "TextEngineModel", name := "fact", desc := "(I)I" } : Jvm.MethodName)), (Jvm.Cond.instanceMethod ({ cls := "TextEngineModel", name := "fact", desc := "(I)I" } : Jvm.MethodName)), (Jvm.Cond.selects "TextEngineModel" ({ cls := "TextEngineModel", name := "fact", desc := "(I)I" } : Jvm.MethodName) ({ cls := "TextEngineModel", name := "fact", desc := "(I)I" } : Jvm.MethodName)), (Jvm.Cond.code ({ cls := "TextEngineModel", name := "fact", desc := "(I)I" } : Jvm.MethodName) prog_13_method_34_code (2 : Nat) (Option.some Jvm.ClassFile.FieldType.int)), (Jvm.Cond.methodLink "TextEngineLaw" (47 : Nat) ({ cls := "TextEngineModel", name := "weight", desc := "(III)I" } : Jvm.MethodName)), (Jvm.Cond.instanceMethod ({ cls := "TextEngineModel", name := "weight", desc := "(III)I" } : Jvm.MethodName)), (Jvm.Cond.selects "TextEngineModel" ({ cls := "TextEngineModel", name := "weight", desc := "(III)I" } : Jvm.MethodName) ({ cls := "TextEngineModel", name := "weight", desc := "(III)I" } : Jvm.MethodName)), (Jvm.Cond.code ({ cls := "TextEngineModel", name := "weight", desc := "(III)I" } : Jvm.MethodName) prog_13_method_35_code (4 : Nat) (Option.some Jvm.ClassFile.FieldType.int)), (Jvm.Cond.constantFloat "TextEngineModel" (349 : Nat) (1199570944 : UInt32)), (Jvm.Cond.methodLink "TextEngineLaw" (51 : Nat) ({ cls := "TextEngineModel", name := "text", desc := "(JI)I" } : Jvm.MethodName)), (Jvm.Cond.instanceMethod ({ cls := "TextEngineModel", name := "text", desc := "(JI)I" } : Jvm.MethodName)), (Jvm.Cond.selects "TextEngineModel" ({ cls := "TextEngineModel", name := "text", desc := "(JI)I" } : Jvm.MethodName) ({ cls := "TextEngineModel", name := "text", desc := "(JI)I" } : Jvm.MethodName)), (Jvm.Cond.code ({ cls := "TextEngineModel", name := "text", desc := "(JI)I" } : Jvm.MethodName) prog_13_method_36_code (5 : Nat) (Option.some Jvm.ClassFile.FieldType.int)), (Jvm.Cond.methodLink "TextEngineLaw" (55 : Nat) ({ cls := "TextEngineModel", name := "encode", desc := "()I" } : Jvm.MethodName)), (Jvm.Cond.instanceMethod ({ cls := "TextEngineModel", name := "encode", desc := "()I" } : Jvm.MethodName)), (Jvm.Cond.selects "TextEngineModel" ({ cls := "TextEngineModel", name := "encode", desc := "()I" } : Jvm.MethodName) ({ cls := "TextEngineModel", name := "encode", desc := "()I" } : Jvm.MethodName)), (Jvm.Cond.code ({ cls := "TextEngineModel", name := "encode", desc := "()I" } : Jvm.MethodName) prog_13_method_37_code (5 : Nat) (Option.some Jvm.ClassFile.FieldType.int))]
def xq_44 : List Cond := [(Jvm.Cond.methodLink "TextEngineLaw" (59 : Nat) ({ cls := "TextEngineModel", name := "token", desc := "(I)I" } : Jvm.MethodName)), (Jvm.Cond.instanceMethod ({ cls := "TextEngineModel", name := "token", desc := "(I)I" } : Jvm.MethodName)), (Jvm.Cond.selects "TextEngineModel" ({ cls := "TextEngineModel", name := "token", desc := "(I)I" } : Jvm.MethodName) ({ cls := "TextEngineModel", name := "token", desc := "(I)I" } : Jvm.MethodName)), (Jvm.Cond.code ({ cls := "TextEngineModel", name := "token", desc := "(I)I" } : Jvm.MethodName) prog_13_method_38_code (2 : Nat) (Option.some Jvm.ClassFile.FieldType.int)), (Jvm.Cond.methodLink "TextEngineLaw" (63 : Nat) ({ cls := "TextEngineModel", name := "letter", desc := "(II)I" } : Jvm.MethodName)), (Jvm.Cond.instanceMethod ({ cls := "TextEngineModel", name := "letter", desc := "(II)I" } : Jvm.MethodName)), (Jvm.Cond.selects "TextEngineModel" ({ cls := "TextEngineModel", name := "letter", desc := "(II)I" } : Jvm.MethodName) ({ cls := "TextEngineModel", name := "letter", desc := "(II)I" } : Jvm.MethodName)), (Jvm.Cond.code ({ cls := "TextEngineModel", name := "letter", desc := "(II)I" } : Jvm.MethodName) prog_13_method_39_code (3 : Nat) (Option.some Jvm.ClassFile.FieldType.int)), (Jvm.Cond.methodLink "TextEngineLaw" (67 : Nat) ({ cls := "TextEngineModel", name := "step", desc := "(I)I" } : Jvm.MethodName)), (Jvm.Cond.instanceMethod ({ cls := "TextEngineModel", name := "step", desc := "(I)I" } : Jvm.MethodName)), (Jvm.Cond.selects "TextEngineModel" ({ cls := "TextEngineModel", name := "step", desc := "(I)I" } : Jvm.MethodName) ({ cls := "TextEngineModel", name := "step", desc := "(I)I" } : Jvm.MethodName)), (Jvm.Cond.code ({ cls := "TextEngineModel", name := "step", desc := "(I)I" } : Jvm.MethodName) prog_13_method_47_code (3 : Nat) (Option.some Jvm.ClassFile.FieldType.int)), (Jvm.Cond.methodLink "TextEngineModel" (383 : Nat) ({ cls := "TextEngineModel", name := "layer", desc := "(I)V" } : Jvm.MethodName)), (Jvm.Cond.privateMethod ({ cls := "TextEngineModel", name := "layer", desc := "(I)V" } : Jvm.MethodName)), (Jvm.Cond.instanceMethod ({ cls := "TextEngineModel", name := "layer", desc := "(I)V" } : Jvm.MethodName)), (Jvm.Cond.code ({ cls := "TextEngineModel", name := "layer", desc := "(I)V" } : Jvm.MethodName) prog_13_method_46_code (6 : Nat) (Option.none : Option Jvm.ClassFile.FieldType)), (Jvm.Cond.methodLink "TextEngineModel" (369 : Nat) ({ cls := "TextEngineModel", name := "norm", desc := "(I)V" } : Jvm.MethodName)), (Jvm.Cond.privateMethod ({ cls := "TextEngineModel", name := "norm", desc := "(I)V" } : Jvm.MethodName)), (Jvm.Cond.instanceMethod ({ cls := "TextEngineModel", name := "norm", desc := "(I)V" } : Jvm.MethodName)), (Jvm.Cond.code ({ cls := "TextEngineModel", name := "norm", desc := "(I)V" } : Jvm.MethodName) prog_13_method_42_code (6 : Nat) (Option.none : Option Jvm.ClassFile.FieldType)), (Jvm.Cond.methodLink "TextEngineModel" (358 : Nat) ({ cls := "TextEngineModel", name := "root", desc := "(F)F" } : Jvm.MethodName)), (Jvm.Cond.static ({ cls := "TextEngineModel", name := "root", desc := "(F)F" } : Jvm.MethodName)), (Jvm.Cond.code ({ cls := "TextEngineModel", name := "root", desc := "(F)F" } : Jvm.MethodName) prog_13_method_40_code (3 : Nat) (Option.some Jvm.ClassFile.FieldType.float)), (Jvm.Cond.methodLink "TextEngineModel" (372 : Nat) ({ cls := "TextEngineModel", name := "dot", desc := "(II[F)F" } : Jvm.MethodName)), (Jvm.Cond.privateMethod ({ cls := "TextEngineModel", name := "dot", desc := "(II[F)F" } : Jvm.MethodName)), (Jvm.Cond.instanceMethod ({ cls := "TextEngineModel", name := "dot", desc := "(II[F)F" } : Jvm.MethodName)), (Jvm.Cond.code ({ cls := "TextEngineModel", name := "dot", desc := "(II[F)F" } : Jvm.MethodName) prog_13_method_43_code (6 : Nat) (Option.some Jvm.ClassFile.FieldType.float)), (Jvm.Cond.methodLink "TextEngineModel" (376 : Nat) ({ cls := "TextEngineModel", name := "turnAll", desc := "([FI)V" } : Jvm.MethodName)), (Jvm.Cond.privateMethod ({ cls := "TextEngineModel", name := "turnAll", desc := "([FI)V" } : Jvm.MethodName)), (Jvm.Cond.instanceMethod ({ cls := "TextEngineModel", name := "turnAll", desc := "([FI)V" } : Jvm.MethodName)), (Jvm.Cond.code ({ cls := "TextEngineModel", name := "turnAll", desc := "([FI)V" } : Jvm.MethodName) prog_13_method_44_code (12 : Nat) (Option.none : Option Jvm.ClassFile.FieldType)), (Jvm.Cond.constantFloat "TextEngineModel" (362 : Nat) (1082130432 : UInt32))]
def xq_45 : List Cond := [(Jvm.Cond.methodLink "TextEngineModel" (380 : Nat) ({ cls := "TextEngineModel", name := "attend", desc := "(I)V" } : Jvm.MethodName)), (Jvm.Cond.privateMethod ({ cls := "TextEngineModel", name := "attend", desc := "(I)V" } : Jvm.MethodName)), (Jvm.Cond.instanceMethod ({ cls := "TextEngineModel", name := "attend", desc := "(I)V" } : Jvm.MethodName)), (Jvm.Cond.code ({ cls := "TextEngineModel", name := "attend", desc := "(I)V" } : Jvm.MethodName) prog_13_method_45_code (15 : Nat) (Option.none : Option Jvm.ClassFile.FieldType)), (Jvm.Cond.methodLink "TextEngineModel" (366 : Nat) ({ cls := "TextEngineModel", name := "exp", desc := "(F)F" } : Jvm.MethodName)), (Jvm.Cond.static ({ cls := "TextEngineModel", name := "exp", desc := "(F)F" } : Jvm.MethodName)), (Jvm.Cond.code ({ cls := "TextEngineModel", name := "exp", desc := "(F)F" } : Jvm.MethodName) prog_13_method_41_code (4 : Nat) (Option.some Jvm.ClassFile.FieldType.float)), (Jvm.Cond.constantFloat "TextEngineModel" (355 : Nat) (3246391296 : UInt32)), (Jvm.Cond.constantFloat "TextEngineModel" (356 : Nat) (1098907648 : UInt32)), (Jvm.Cond.constantFloat "TextEngineModel" (357 : Nat) (1132462080 : UInt32)), (Jvm.Cond.methodLink "TextEngineLaw" (71 : Nat) ({ cls := "TextEngineModel", name := "logit", desc := "(I)I" } : Jvm.MethodName)), (Jvm.Cond.instanceMethod ({ cls := "TextEngineModel", name := "logit", desc := "(I)I" } : Jvm.MethodName)), (Jvm.Cond.selects "TextEngineModel" ({ cls := "TextEngineModel", name := "logit", desc := "(I)I" } : Jvm.MethodName) ({ cls := "TextEngineModel", name := "logit", desc := "(I)I" } : Jvm.MethodName)), (Jvm.Cond.code ({ cls := "TextEngineModel", name := "logit", desc := "(I)I" } : Jvm.MethodName) prog_13_method_48_code (2 : Nat) (Option.some Jvm.ClassFile.FieldType.int)), (Jvm.Cond.constantFloat "TextEngineModel" (386 : Nat) (1149239296 : UInt32)), (Jvm.Cond.methodLink "TextEngineLaw" (76 : Nat) ({ cls := "TextEngineModel", name := "seed", desc := "(J)V" } : Jvm.MethodName)), (Jvm.Cond.instanceMethod ({ cls := "TextEngineModel", name := "seed", desc := "(J)V" } : Jvm.MethodName)), (Jvm.Cond.selects "TextEngineModel" ({ cls := "TextEngineModel", name := "seed", desc := "(J)V" } : Jvm.MethodName) ({ cls := "TextEngineModel", name := "seed", desc := "(J)V" } : Jvm.MethodName)), (Jvm.Cond.code ({ cls := "TextEngineModel", name := "seed", desc := "(J)V" } : Jvm.MethodName) prog_13_method_49_code (3 : Nat) (Option.none : Option Jvm.ClassFile.FieldType)), (Jvm.Cond.methodLink "TextEngineLaw" (80 : Nat) ({ cls := "TextEngineModel", name := "draw", desc := "(III)I" } : Jvm.MethodName)), (Jvm.Cond.instanceMethod ({ cls := "TextEngineModel", name := "draw", desc := "(III)I" } : Jvm.MethodName)), (Jvm.Cond.selects "TextEngineModel" ({ cls := "TextEngineModel", name := "draw", desc := "(III)I" } : Jvm.MethodName) ({ cls := "TextEngineModel", name := "draw", desc := "(III)I" } : Jvm.MethodName)), (Jvm.Cond.code ({ cls := "TextEngineModel", name := "draw", desc := "(III)I" } : Jvm.MethodName) prog_13_method_51_code (13 : Nat) (Option.some Jvm.ClassFile.FieldType.int)), (Jvm.Cond.methodLink "TextEngineModel" (387 : Nat) ({ cls := "TextEngineModel", name := "sort", desc := "()V" } : Jvm.MethodName)), (Jvm.Cond.privateMethod ({ cls := "TextEngineModel", name := "sort", desc := "()V" } : Jvm.MethodName)), (Jvm.Cond.instanceMethod ({ cls := "TextEngineModel", name := "sort", desc := "()V" } : Jvm.MethodName)), (Jvm.Cond.code ({ cls := "TextEngineModel", name := "sort", desc := "()V" } : Jvm.MethodName) prog_13_method_50_code (3 : Nat) (Option.none : Option Jvm.ClassFile.FieldType)), (Jvm.Cond.constantFloat "TextEngineModel" (390 : Nat) (1120403456 : UInt32)), (Jvm.Cond.methodLink "TextEngineLaw" (84 : Nat) ({ cls := "TextEngineModel", name := "say", desc := "(I)I" } : Jvm.MethodName)), (Jvm.Cond.instanceMethod ({ cls := "TextEngineModel", name := "say", desc := "(I)I" } : Jvm.MethodName)), (Jvm.Cond.selects "TextEngineModel" ({ cls := "TextEngineModel", name := "say", desc := "(I)I" } : Jvm.MethodName) ({ cls := "TextEngineModel", name := "say", desc := "(I)I" } : Jvm.MethodName)), (Jvm.Cond.code ({ cls := "TextEngineModel", name := "say", desc := "(I)I" } : Jvm.MethodName) prog_13_method_52_code (4 : Nat) (Option.some Jvm.ClassFile.FieldType.int))]
def xq_46 : List Cond := [(Jvm.Cond.methodLink "TextEngineModel" (394 : Nat) ({ cls := "TextEngineModel", name := "step", desc := "(I)I" } : Jvm.MethodName)), (Jvm.Cond.methodLink "TextEngineLaw" (88 : Nat) ({ cls := "TextEngineModel", name := "said", desc := "(I)I" } : Jvm.MethodName)), (Jvm.Cond.instanceMethod ({ cls := "TextEngineModel", name := "said", desc := "(I)I" } : Jvm.MethodName)), (Jvm.Cond.selects "TextEngineModel" ({ cls := "TextEngineModel", name := "said", desc := "(I)I" } : Jvm.MethodName) ({ cls := "TextEngineModel", name := "said", desc := "(I)I" } : Jvm.MethodName)), (Jvm.Cond.code ({ cls := "TextEngineModel", name := "said", desc := "(I)I" } : Jvm.MethodName) prog_13_method_53_code (2 : Nat) (Option.some Jvm.ClassFile.FieldType.int)), (Jvm.Cond.methodLink "TextEngineLaw" (92 : Nat) ({ cls := "TextEngineModel", name := "reset", desc := "()I" } : Jvm.MethodName)), (Jvm.Cond.constantLong "TextEngineLaw" (13 : Nat) (4294967295 : Int64)), (Jvm.Cond.fieldLink "java/lang/String" (9 : Nat) "java/lang/String" "value" "[B"), (Jvm.Cond.fieldLink "java/lang/String" (15 : Nat) "java/lang/String" "coder" "B")]
set_option maxRecDepth 100000 in
theorem xqe_6 : tables_1_6 = xq_43 ++ (xq_44 ++ (xq_45 ++ (xq_46))) := rfl
theorem xqi_43 {w : Cond} (h : w ∈ xq_43) : w ∈ lw_tbl := (List.mem_append_right _ (List.mem_append_right _ (List.mem_append_right _ (List.mem_append_right _ (List.mem_append_right _ (List.mem_append_right _ (by rw [xqe_6]; exact (List.mem_append_left _ h))))))))
theorem xw43 (i : Nat) {w : Cond} (h : xq_43[i]? = some w) (g : goodWord w = true) : w ∈ xTB := List.mem_filter.mpr ⟨xqi_43 (List.mem_of_getElem? h), g⟩
theorem xqi_44 {w : Cond} (h : w ∈ xq_44) : w ∈ lw_tbl := (List.mem_append_right _ (List.mem_append_right _ (List.mem_append_right _ (List.mem_append_right _ (List.mem_append_right _ (List.mem_append_right _ (by rw [xqe_6]; exact (List.mem_append_right _ (List.mem_append_left _ h)))))))))
theorem xw44 (i : Nat) {w : Cond} (h : xq_44[i]? = some w) (g : goodWord w = true) : w ∈ xTB := List.mem_filter.mpr ⟨xqi_44 (List.mem_of_getElem? h), g⟩
theorem xqi_45 {w : Cond} (h : w ∈ xq_45) : w ∈ lw_tbl := (List.mem_append_right _ (List.mem_append_right _ (List.mem_append_right _ (List.mem_append_right _ (List.mem_append_right _ (List.mem_append_right _ (by rw [xqe_6]; exact (List.mem_append_right _ (List.mem_append_right _ (List.mem_append_left _ h))))))))))
theorem xw45 (i : Nat) {w : Cond} (h : xq_45[i]? = some w) (g : goodWord w = true) : w ∈ xTB := List.mem_filter.mpr ⟨xqi_45 (List.mem_of_getElem? h), g⟩
theorem xqi_46 {w : Cond} (h : w ∈ xq_46) : w ∈ lw_tbl := (List.mem_append_right _ (List.mem_append_right _ (List.mem_append_right _ (List.mem_append_right _ (List.mem_append_right _ (List.mem_append_right _ (by rw [xqe_6]; exact (List.mem_append_right _ (List.mem_append_right _ (List.mem_append_right _ h))))))))))
theorem xw46 (i : Nat) {w : Cond} (h : xq_46[i]? = some w) (g : goodWord w = true) : w ∈ xTB := List.mem_filter.mpr ⟨xqi_46 (List.mem_of_getElem? h), g⟩
theorem xTB_good : ∀ w ∈ xTB, goodWord w = true := fun w hw => (List.mem_filter.mp hw).2
theorem xTB_in : ∀ w ∈ xTB, w ∈ lw_tbl := fun w hw => (List.mem_filter.mp hw).1
end
section
/-! the classes -/
def xfl_0 : List (String × String × String × Bool) := [("TextEngine", "file", "LTextEngine$Octets;", true), ("TextEngine", "text", "LTextEngine$Octets;", true), ("TextEngine", "reader", "LTextEngine$Reader;", true), ("TextEngine", "maker", "LTextEngine$Maker;", true), ("TextEngine", "encoder", "LTextEngine$Encoder;", true), ("TextEngine", "network", "LTextEngine$Network;", true), ("TextEngine", "chooser", "LTextEngine$Chooser;", true), ("TextEngine", "sayings", "LTextEngine$Sayings;", true), ("TextEngine", "model", "LTextEngine$Model;", false), ("TextEngine", "spare", "LTextEngine$Model;", false)]
def xff_0 : u_T := fun k => xfl_0.getD k ("", "", "", false)
def xft_0 : List FieldType := [(.object "TextEngine$Octets"), (.object "TextEngine$Octets"), (.object "TextEngine$Reader"), (.object "TextEngine$Maker"), (.object "TextEngine$Encoder"), (.object "TextEngine$Network"), (.object "TextEngine$Chooser"), (.object "TextEngine$Sayings"), (.object "TextEngine$Model"), (.object "TextEngine$Model")]
def xfl_1 : List (String × String × String × Bool) := [("TextEngine$Octets", "row", "[B", true), ("TextEngine$Octets", "size", "I", false)]
def xff_1 : u_T := fun k => xfl_1.getD k ("", "", "", false)
def xft_1 : List FieldType := [(.array .byte), .int]
def xfl_2 : List (String × String × String × Bool) := [("TextEngine$Reader", "file", "LTextEngine$Octets;", true), ("TextEngine$Reader", "keyAt", "[I", true), ("TextEngine$Reader", "types", "[I", true), ("TextEngine$Reader", "valueAt", "[I", true), ("TextEngine$Reader", "nameAt", "[I", true), ("TextEngine$Reader", "columns", "[I", true), ("TextEngine$Reader", "rows", "[I", true), ("TextEngine$Reader", "packings", "[I", true), ("TextEngine$Reader", "offsets", "[I", true), ("TextEngine$Reader", "pairs", "I", false), ("TextEngine$Reader", "tensors", "I", false), ("TextEngine$Reader", "next", "I", false), ("TextEngine$Reader", "fault", "I", false), ("TextEngine$Reader", "faultPlace", "I", false)]
def xff_2 : u_T := fun k => xfl_2.getD k ("", "", "", false)
def xft_2 : List FieldType := [(.object "TextEngine$Octets"), (.array .int), (.array .int), (.array .int), (.array .int), (.array .int), (.array .int), (.array .int), (.array .int), .int, .int, .int, .int, .int]
def xfl_3 : List (String × String × String × Bool) := [("TextEngine$Maker", "file", "LTextEngine$Octets;", true), ("TextEngine$Maker", "reader", "LTextEngine$Reader;", true), ("TextEngine$Maker", "valueAt", "[I", true)]
def xff_3 : u_T := fun k => xfl_3.getD k ("", "", "", false)
def xft_3 : List FieldType := [(.object "TextEngine$Octets"), (.object "TextEngine$Reader"), (.array .int)]
def xfl_4 : List (String × String × String × Bool) := [("TextEngine$Encoder", "tokens", "[I", true), ("TextEngine$Encoder", "count", "I", false)]
def xff_4 : u_T := fun k => xfl_4.getD k ("", "", "", false)
def xft_4 : List FieldType := [(.array .int), .int]
def xfl_5 : List (String × String × String × Bool) := [("TextEngine$Network", "x", "[F", true), ("TextEngine$Network", "y", "[F", true), ("TextEngine$Network", "q", "[F", true), ("TextEngine$Network", "w", "[F", true), ("TextEngine$Network", "g", "[F", true), ("TextEngine$Network", "u", "[F", true), ("TextEngine$Network", "shares", "[F", true), ("TextEngine$Network", "logits", "[F", true), ("TextEngine$Network", "keys", "[[F", true), ("TextEngine$Network", "values", "[[F", true), ("TextEngine$Network", "steps", "I", false)]
def xff_5 : u_T := fun k => xfl_5.getD k ("", "", "", false)
def xft_5 : List FieldType := [(.array .float), (.array .float), (.array .float), (.array .float), (.array .float), (.array .float), (.array .float), (.array .float), (.array (.array .float)), (.array (.array .float)), .int]
def xfl_6 : List (String × String × String × Bool) := [("TextEngine$Chooser", "order", "[I", true), ("TextEngine$Chooser", "sums", "[F", true), ("TextEngine$Chooser", "state", "J", false)]
def xff_6 : u_T := fun k => xfl_6.getD k ("", "", "", false)
def xft_6 : List FieldType := [(.array .int), (.array .float), .long]
def xfl_7 : List (String × String × String × Bool) := [("TextEngine$Sayings", "row", "[I", true), ("TextEngine$Sayings", "total", "I", false)]
def xff_7 : u_T := fun k => xfl_7.getD k ("", "", "", false)
def xft_7 : List FieldType := [(.array .int), .int]
def xfl_8 : List (String × String × String × Bool) := [("TextEngine$Model", "facts", "[I", true), ("TextEngine$Model", "words", "LTextEngine$Words;", true), ("TextEngine$Model", "tensors", "LTextEngine$Tensors;", true), ("TextEngine$Model", "eps", "F", false), ("TextEngine$Model", "base", "F", false), ("TextEngine$Model", "headSize", "I", false), ("TextEngine$Model", "sharers", "I", false)]
def xff_8 : u_T := fun k => xfl_8.getD k ("", "", "", false)
def xft_8 : List FieldType := [(.array .int), (.object "TextEngine$Words"), (.object "TextEngine$Tensors"), .float, .float, .int, .int]
def xfl_9 : List (String × String × String × Bool) := [("TextEngine$Words", "tokens", "[J", true), ("TextEngine$Words", "left", "[I", true), ("TextEngine$Words", "right", "[I", true), ("TextEngine$Words", "both", "[I", true), ("TextEngine$Words", "count", "I", false), ("TextEngine$Words", "merges", "I", false)]
def xff_9 : u_T := fun k => xfl_9.getD k ("", "", "", false)
def xft_9 : List FieldType := [(.array .long), (.array .int), (.array .int), (.array .int), .int, .int]
def xfl_10 : List (String × String × String × Bool) := [("TextEngine$Tensors", "starts", "[I", true), ("TextEngine$Tensors", "columns", "[I", true), ("TextEngine$Tensors", "rows", "[I", true), ("TextEngine$Tensors", "needed", "[I", true), ("TextEngine$Tensors", "weights", "[F", true), ("TextEngine$Tensors", "count", "I", false)]
def xff_10 : u_T := fun k => xfl_10.getD k ("", "", "", false)
def xft_10 : List FieldType := [(.array .int), (.array .int), (.array .int), (.array .int), (.array .float), .int]
def xfl_11 : List (String × String × String × Bool) := [("TextEngineModel", "f", "[I", true), ("TextEngineModel", "size", "I", false), ("TextEngineModel", "at", "I", false), ("TextEngineModel", "fault", "I", false), ("TextEngineModel", "place", "I", false), ("TextEngineModel", "keyAt", "[I", true), ("TextEngineModel", "type", "[I", true), ("TextEngineModel", "valueAt", "[I", true), ("TextEngineModel", "nameAt", "[I", true), ("TextEngineModel", "columns", "[I", true), ("TextEngineModel", "rows", "[I", true), ("TextEngineModel", "packing", "[I", true), ("TextEngineModel", "offset", "[I", true), ("TextEngineModel", "pairs", "I", false), ("TextEngineModel", "tensors", "I", false), ("TextEngineModel", "say", "[I", true), ("TextEngineModel", "tokenAt", "[I", true), ("TextEngineModel", "mergeOne", "[I", true), ("TextEngineModel", "mergeTwo", "[I", true), ("TextEngineModel", "mergeTo", "[I", true), ("TextEngineModel", "needed", "[I", true), ("TextEngineModel", "keyed", "[I", true), ("TextEngineModel", "tokens", "I", false), ("TextEngineModel", "merges", "I", false), ("TextEngineModel", "dataAt", "I", false), ("TextEngineModel", "epsilon", "F", false), ("TextEngineModel", "turn", "F", false), ("TextEngineModel", "fact", "[I", true), ("TextEngineModel", "letters", "[I", true), ("TextEngineModel", "letterSize", "[I", true), ("TextEngineModel", "one", "[I", true), ("TextEngineModel", "two", "[I", true), ("TextEngineModel", "to", "[I", true), ("TextEngineModel", "tensor", "[I", true), ("TextEngineModel", "wide", "[I", true), ("TextEngineModel", "high", "[I", true), ("TextEngineModel", "begins", "[I", true), ("TextEngineModel", "weights", "[F", true), ("TextEngineModel", "has", "Z", false), ("TextEngineModel", "eps", "F", false), ("TextEngineModel", "base", "F", false), ("TextEngineModel", "text", "[I", true), ("TextEngineModel", "encoded", "[I", true), ("TextEngineModel", "told", "[I", true), ("TextEngineModel", "order", "[I", true), ("TextEngineModel", "x", "[F", true), ("TextEngineModel", "y", "[F", true), ("TextEngineModel", "q", "[F", true), ("TextEngineModel", "k", "[F", true), ("TextEngineModel", "v", "[F", true), ("TextEngineModel", "w", "[F", true), ("TextEngineModel", "g", "[F", true), ("TextEngineModel", "u", "[F", true), ("TextEngineModel", "z", "[F", true), ("TextEngineModel", "keys", "[F", true), ("TextEngineModel", "values", "[F", true), ("TextEngineModel", "logits", "[F", true), ("TextEngineModel", "chances", "[F", true), ("TextEngineModel", "texts", "I", false), ("TextEngineModel", "encodes", "I", false), ("TextEngineModel", "steps", "I", false), ("TextEngineModel", "says", "I", false), ("TextEngineModel", "seed", "J", false)]
def xff_11 : u_T := fun k => xfl_11.getD k ("", "", "", false)
def xft_11 : List FieldType := [(.array .int), .int, .int, .int, .int, (.array .int), (.array .int), (.array .int), (.array .int), (.array .int), (.array .int), (.array .int), (.array .int), .int, .int, (.array .int), (.array .int), (.array .int), (.array .int), (.array .int), (.array .int), (.array .int), .int, .int, .int, .float, .float, (.array .int), (.array .int), (.array .int), (.array .int), (.array .int), (.array .int), (.array .int), (.array .int), (.array .int), (.array .int), (.array .float), .boolean, .float, .float, (.array .int), (.array .int), (.array .int), (.array .int), (.array .float), (.array .float), (.array .float), (.array .float), (.array .float), (.array .float), (.array .float), (.array .float), (.array .float), (.array .float), (.array .float), (.array .float), (.array .float), .int, .int, .int, .int, .long]
def xCl : List vw_C := [("TextEngine", xff_0, 10), ("TextEngine$Octets", xff_1, 2), ("TextEngine$Reader", xff_2, 14), ("TextEngine$Maker", xff_3, 3), ("TextEngine$Encoder", xff_4, 2), ("TextEngine$Network", xff_5, 11), ("TextEngine$Chooser", xff_6, 3), ("TextEngine$Sayings", xff_7, 2), ("TextEngine$Model", xff_8, 7), ("TextEngine$Words", xff_9, 6), ("TextEngine$Tensors", xff_10, 6), ("TextEngineModel", xff_11, 63)]
def xFT (k : Nat) : List FieldType := (bif Nat.ble 6 k then (bif Nat.ble 9 k then (bif Nat.ble 10 k then (bif Nat.ble 11 k then xft_11 else xft_10) else xft_9) else (bif Nat.ble 7 k then (bif Nat.ble 8 k then xft_8 else xft_7) else xft_6)) else (bif Nat.ble 3 k then (bif Nat.ble 4 k then (bif Nat.ble 5 k then xft_5 else xft_4) else xft_3) else (bif Nat.ble 1 k then (bif Nat.ble 2 k then xft_2 else xft_1) else xft_0)))
def xTF : List xNF := [("TextEngine$Encoder", 19, "TextEngine$Octets", "size", "I", "TextEngine"), ("TextEngine", 85, "TextEngine$Octets", "size", "I", "TextEngine"), ("TextEngine$Reader", 66, "TextEngine$Octets", "size", "I", "TextEngine"), ("TextEngine$Maker", 219, "TextEngine$Octets", "size", "I", "TextEngine"), ("TextEngine$Maker", 103, "TextEngine$Reader", "types", "[I", "TextEngine"), ("TextEngine$Maker", 102, "TextEngine$Reader", "valueAt", "[I", "TextEngine"), ("TextEngine$Maker", 182, "TextEngine$Reader", "columns", "[I", "TextEngine"), ("TextEngine$Maker", 186, "TextEngine$Reader", "rows", "[I", "TextEngine"), ("TextEngine$Maker", 232, "TextEngine$Reader", "packings", "[I", "TextEngine"), ("TextEngine$Maker", 213, "TextEngine$Reader", "offsets", "[I", "TextEngine"), ("TextEngine$Maker", 111, "TextEngine$Reader", "pairs", "I", "TextEngine"), ("TextEngine$Maker", 115, "TextEngine$Reader", "tensors", "I", "TextEngine"), ("TextEngine$Maker", 210, "TextEngine$Reader", "next", "I", "TextEngine"), ("TextEngine", 112, "TextEngine$Reader", "faultPlace", "I", "TextEngine"), ("TextEngine", 142, "TextEngine$Encoder", "tokens", "[I", "TextEngine"), ("TextEngine", 106, "TextEngine$Encoder", "count", "I", "TextEngine"), ("TextEngine", 165, "TextEngine$Network", "logits", "[F", "TextEngine"), ("TextEngine", 154, "TextEngine$Network", "steps", "I", "TextEngine"), ("TextEngine", 178, "TextEngine$Chooser", "order", "[I", "TextEngine"), ("TextEngine", 170, "TextEngine$Chooser", "state", "J", "TextEngine"), ("TextEngine", 109, "TextEngine$Sayings", "total", "I", "TextEngine"), ("TextEngine$Encoder", 47, "TextEngine$Words", "left", "[I", "TextEngine"), ("TextEngine$Encoder", 50, "TextEngine$Words", "right", "[I", "TextEngine"), ("TextEngine$Encoder", 53, "TextEngine$Words", "both", "[I", "TextEngine"), ("TextEngine$Maker", 161, "TextEngine$Words", "count", "I", "TextEngine"), ("TextEngine$Encoder", 44, "TextEngine$Words", "merges", "I", "TextEngine"), ("TextEngine$Maker", 170, "TextEngine$Words", "merges", "I", "TextEngine"), ("TextEngine$Maker", 225, "TextEngine$Tensors", "starts", "[I", "TextEngine"), ("TextEngine$Maker", 179, "TextEngine$Tensors", "columns", "[I", "TextEngine"), ("TextEngine$Maker", 183, "TextEngine$Tensors", "rows", "[I", "TextEngine"), ("TextEngine$Network", 54, "TextEngine$Tensors", "needed", "[I", "TextEngine"), ("TextEngine$Maker", 207, "TextEngine$Tensors", "needed", "[I", "TextEngine"), ("TextEngine$Maker", 235, "TextEngine$Tensors", "weights", "[F", "TextEngine"), ("TextEngine$Maker", 176, "TextEngine$Tensors", "count", "I", "TextEngine"), ("TextEngine$Maker", 40, "TextEngine$Model", "facts", "[I", "TextEngine"), ("TextEngine$Network", 60, "TextEngine$Model", "facts", "[I", "TextEngine"), ("TextEngine", 115, "TextEngine$Model", "facts", "[I", "TextEngine"), ("TextEngine", 134, "TextEngine$Model", "words", "LTextEngine$Words;", "TextEngine"), ("TextEngine$Maker", 157, "TextEngine$Model", "words", "LTextEngine$Words;", "TextEngine"), ("TextEngine$Maker", 53, "TextEngine$Model", "tensors", "LTextEngine$Tensors;", "TextEngine"), ("TextEngine$Network", 48, "TextEngine$Model", "tensors", "LTextEngine$Tensors;", "TextEngine"), ("TextEngine", 119, "TextEngine$Model", "tensors", "LTextEngine$Tensors;", "TextEngine"), ("TextEngine$Network", 82, "TextEngine$Model", "eps", "F", "TextEngine"), ("TextEngine$Maker", 144, "TextEngine$Model", "eps", "F", "TextEngine"), ("TextEngine$Network", 117, "TextEngine$Model", "base", "F", "TextEngine"), ("TextEngine$Maker", 147, "TextEngine$Model", "base", "F", "TextEngine"), ("TextEngine$Network", 98, "TextEngine$Model", "headSize", "I", "TextEngine"), ("TextEngine$Maker", 127, "TextEngine$Model", "headSize", "I", "TextEngine"), ("TextEngine$Network", 101, "TextEngine$Model", "sharers", "I", "TextEngine"), ("TextEngine$Maker", 130, "TextEngine$Model", "sharers", "I", "TextEngine")]
def xTM : List xNM := [("TextEngine", 41, ⟨"TextEngine$Encoder", "<init>", "()V"⟩, "TextEngine"), ("TextEngine", 48, ⟨"TextEngine$Network", "<init>", "()V"⟩, "TextEngine"), ("TextEngine", 55, ⟨"TextEngine$Chooser", "<init>", "()V"⟩, "TextEngine"), ("TextEngine", 62, ⟨"TextEngine$Sayings", "<init>", "()V"⟩, "TextEngine"), ("TextEngine", 73, ⟨"TextEngine$Model", "<init>", "()V"⟩, "TextEngine"), ("TextEngine$Model", 17, ⟨"TextEngine$Words", "<init>", "()V"⟩, "TextEngine"), ("TextEngine$Model", 24, ⟨"TextEngine$Tensors", "<init>", "()V"⟩, "TextEngine")]
def xTSs : List xTS := [("TextEngine$Maker", 61, "dim", 0), ("TextEngine$Maker", 67, "heads", 1), ("TextEngine$Maker", 69, "kv", 2), ("TextEngine$Maker", 71, "layers", 3), ("TextEngine$Maker", 73, "ffn", 4), ("TextEngine$Maker", 75, "ctx", 5), ("TextEngine$Maker", 77, "eps", 6), ("TextEngine$Maker", 79, "base", 7), ("TextEngine$Maker", 81, "tokens", 8), ("TextEngine$Maker", 86, "merges", 9), ("TextEngine$Maker", 92, "stop", 10), ("TextEngine$Maker", 94, "align", 11), ("TextEngine$Maker", 187, "embed", 12), ("TextEngine$Maker", 197, "norm", 13), ("TextEngine$Maker", 199, "out", 14), ("TextEngine$Maker", 201, "a0q0k0v0o0f0g0u0d0a1q1k1v1o1f1g1u1d1", 15)]
def xtxl : List (List Int32) := [[100, 105, 109], [104, 101, 97, 100, 115], [107, 118], [108, 97, 121, 101, 114, 115], [102, 102, 110], [99, 116, 120], [101, 112, 115], [98, 97, 115, 101], [116, 111, 107, 101, 110, 115], [109, 101, 114, 103, 101, 115], [115, 116, 111, 112], [97, 108, 105, 103, 110], [101, 109, 98, 101, 100], [110, 111, 114, 109], [111, 117, 116], [97, 48, 113, 48, 107, 48, 118, 48, 111, 48, 102, 48, 103, 48, 117, 48, 100, 48, 97, 49, 113, 49, 107, 49, 118, 49, 111, 49, 102, 49, 103, 49, 117, 49, 100, 49]]
def xtlen (k : Nat) : Nat := (xtxl.getD k []).length
def xtchr (k j : Nat) : Int32 := (xtxl.getD k []).getD j 0
theorem xtf (j : Nat) {q : xNF} (h : xTF[j]? = some q) : q ∈ xTF := List.mem_of_getElem? h
theorem xtm (j : Nat) {q : xNM} (h : xTM[j]? = some q) : q ∈ xTM := List.mem_of_getElem? h
theorem xts (j : Nat) {q : xTS} (h : xTSs[j]? = some q) : q ∈ xTSs := List.mem_of_getElem? h
set_option maxRecDepth 100000 in
theorem xuw_0 : ∀ w ∈ u_ws "TextEngine" xff_0 10, w ∈ xTB := by
  show ∀ w ∈ ([(Jvm.Cond.laysFinal "TextEngine" "TextEngine" "file" "LTextEngine$Octets;"), (Jvm.Cond.laysFinal "TextEngine" "TextEngine" "text" "LTextEngine$Octets;"), (Jvm.Cond.laysFinal "TextEngine" "TextEngine" "reader" "LTextEngine$Reader;"), (Jvm.Cond.laysFinal "TextEngine" "TextEngine" "maker" "LTextEngine$Maker;"), (Jvm.Cond.laysFinal "TextEngine" "TextEngine" "encoder" "LTextEngine$Encoder;"), (Jvm.Cond.laysFinal "TextEngine" "TextEngine" "network" "LTextEngine$Network;"), (Jvm.Cond.laysFinal "TextEngine" "TextEngine" "chooser" "LTextEngine$Chooser;"), (Jvm.Cond.laysFinal "TextEngine" "TextEngine" "sayings" "LTextEngine$Sayings;"), (Jvm.Cond.lays "TextEngine" "TextEngine" "model" "LTextEngine$Model;"), (Jvm.Cond.lays "TextEngine" "TextEngine" "spare" "LTextEngine$Model;")] : List Cond), w ∈ xTB
  exact List.forall_mem_cons.mpr ⟨(xw13 26 rfl rfl), List.forall_mem_cons.mpr ⟨(xw13 28 rfl rfl), List.forall_mem_cons.mpr ⟨(xw13 30 rfl rfl), List.forall_mem_cons.mpr ⟨(xw14 0 rfl rfl), List.forall_mem_cons.mpr ⟨(xw14 2 rfl rfl), List.forall_mem_cons.mpr ⟨(xw14 4 rfl rfl), List.forall_mem_cons.mpr ⟨(xw14 6 rfl rfl), List.forall_mem_cons.mpr ⟨(xw14 8 rfl rfl), List.forall_mem_cons.mpr ⟨(xw14 10 rfl rfl), List.forall_mem_cons.mpr ⟨(xw14 12 rfl rfl), fun _ h => absurd h List.not_mem_nil⟩⟩⟩⟩⟩⟩⟩⟩⟩⟩
set_option maxRecDepth 100000 in
theorem xuw_1 : ∀ w ∈ u_ws "TextEngine$Octets" xff_1 2, w ∈ xTB := by
  show ∀ w ∈ ([(Jvm.Cond.laysFinal "TextEngine$Octets" "TextEngine$Octets" "row" "[B"), (Jvm.Cond.lays "TextEngine$Octets" "TextEngine$Octets" "size" "I")] : List Cond), w ∈ xTB
  exact List.forall_mem_cons.mpr ⟨(xw4 6 rfl rfl), List.forall_mem_cons.mpr ⟨(xw4 8 rfl rfl), fun _ h => absurd h List.not_mem_nil⟩⟩
set_option maxRecDepth 100000 in
theorem xuw_2 : ∀ w ∈ u_ws "TextEngine$Reader" xff_2 14, w ∈ xTB := by
  show ∀ w ∈ ([(Jvm.Cond.laysFinal "TextEngine$Reader" "TextEngine$Reader" "file" "LTextEngine$Octets;"), (Jvm.Cond.laysFinal "TextEngine$Reader" "TextEngine$Reader" "keyAt" "[I"), (Jvm.Cond.laysFinal "TextEngine$Reader" "TextEngine$Reader" "types" "[I"), (Jvm.Cond.laysFinal "TextEngine$Reader" "TextEngine$Reader" "valueAt" "[I"), (Jvm.Cond.laysFinal "TextEngine$Reader" "TextEngine$Reader" "nameAt" "[I"), (Jvm.Cond.laysFinal "TextEngine$Reader" "TextEngine$Reader" "columns" "[I"), (Jvm.Cond.laysFinal "TextEngine$Reader" "TextEngine$Reader" "rows" "[I"), (Jvm.Cond.laysFinal "TextEngine$Reader" "TextEngine$Reader" "packings" "[I"), (Jvm.Cond.laysFinal "TextEngine$Reader" "TextEngine$Reader" "offsets" "[I"), (Jvm.Cond.lays "TextEngine$Reader" "TextEngine$Reader" "pairs" "I"), (Jvm.Cond.lays "TextEngine$Reader" "TextEngine$Reader" "tensors" "I"), (Jvm.Cond.lays "TextEngine$Reader" "TextEngine$Reader" "next" "I"), (Jvm.Cond.lays "TextEngine$Reader" "TextEngine$Reader" "fault" "I"), (Jvm.Cond.lays "TextEngine$Reader" "TextEngine$Reader" "faultPlace" "I")] : List Cond), w ∈ xTB
  exact List.forall_mem_cons.mpr ⟨(xw5 10 rfl rfl), List.forall_mem_cons.mpr ⟨(xw5 12 rfl rfl), List.forall_mem_cons.mpr ⟨(xw5 14 rfl rfl), List.forall_mem_cons.mpr ⟨(xw5 16 rfl rfl), List.forall_mem_cons.mpr ⟨(xw5 18 rfl rfl), List.forall_mem_cons.mpr ⟨(xw5 20 rfl rfl), List.forall_mem_cons.mpr ⟨(xw5 22 rfl rfl), List.forall_mem_cons.mpr ⟨(xw5 24 rfl rfl), List.forall_mem_cons.mpr ⟨(xw5 26 rfl rfl), List.forall_mem_cons.mpr ⟨(xw5 28 rfl rfl), List.forall_mem_cons.mpr ⟨(xw5 30 rfl rfl), List.forall_mem_cons.mpr ⟨(xw6 0 rfl rfl), List.forall_mem_cons.mpr ⟨(xw6 2 rfl rfl), List.forall_mem_cons.mpr ⟨(xw6 4 rfl rfl), fun _ h => absurd h List.not_mem_nil⟩⟩⟩⟩⟩⟩⟩⟩⟩⟩⟩⟩⟩⟩
set_option maxRecDepth 100000 in
theorem xuw_3 : ∀ w ∈ u_ws "TextEngine$Maker" xff_3 3, w ∈ xTB := by
  show ∀ w ∈ ([(Jvm.Cond.laysFinal "TextEngine$Maker" "TextEngine$Maker" "file" "LTextEngine$Octets;"), (Jvm.Cond.laysFinal "TextEngine$Maker" "TextEngine$Maker" "reader" "LTextEngine$Reader;"), (Jvm.Cond.laysFinal "TextEngine$Maker" "TextEngine$Maker" "valueAt" "[I")] : List Cond), w ∈ xTB
  exact List.forall_mem_cons.mpr ⟨(xw6 17 rfl rfl), List.forall_mem_cons.mpr ⟨(xw6 19 rfl rfl), List.forall_mem_cons.mpr ⟨(xw6 21 rfl rfl), fun _ h => absurd h List.not_mem_nil⟩⟩⟩
set_option maxRecDepth 100000 in
theorem xuw_4 : ∀ w ∈ u_ws "TextEngine$Encoder" xff_4 2, w ∈ xTB := by
  show ∀ w ∈ ([(Jvm.Cond.laysFinal "TextEngine$Encoder" "TextEngine$Encoder" "tokens" "[I"), (Jvm.Cond.lays "TextEngine$Encoder" "TextEngine$Encoder" "count" "I")] : List Cond), w ∈ xTB
  exact List.forall_mem_cons.mpr ⟨(xw7 2 rfl rfl), List.forall_mem_cons.mpr ⟨(xw7 4 rfl rfl), fun _ h => absurd h List.not_mem_nil⟩⟩
set_option maxRecDepth 100000 in
theorem xuw_5 : ∀ w ∈ u_ws "TextEngine$Network" xff_5 11, w ∈ xTB := by
  show ∀ w ∈ ([(Jvm.Cond.laysFinal "TextEngine$Network" "TextEngine$Network" "x" "[F"), (Jvm.Cond.laysFinal "TextEngine$Network" "TextEngine$Network" "y" "[F"), (Jvm.Cond.laysFinal "TextEngine$Network" "TextEngine$Network" "q" "[F"), (Jvm.Cond.laysFinal "TextEngine$Network" "TextEngine$Network" "w" "[F"), (Jvm.Cond.laysFinal "TextEngine$Network" "TextEngine$Network" "g" "[F"), (Jvm.Cond.laysFinal "TextEngine$Network" "TextEngine$Network" "u" "[F"), (Jvm.Cond.laysFinal "TextEngine$Network" "TextEngine$Network" "shares" "[F"), (Jvm.Cond.laysFinal "TextEngine$Network" "TextEngine$Network" "logits" "[F"), (Jvm.Cond.laysFinal "TextEngine$Network" "TextEngine$Network" "keys" "[[F"), (Jvm.Cond.laysFinal "TextEngine$Network" "TextEngine$Network" "values" "[[F"), (Jvm.Cond.lays "TextEngine$Network" "TextEngine$Network" "steps" "I")] : List Cond), w ∈ xTB
  exact List.forall_mem_cons.mpr ⟨(xw7 28 rfl rfl), List.forall_mem_cons.mpr ⟨(xw7 30 rfl rfl), List.forall_mem_cons.mpr ⟨(xw8 0 rfl rfl), List.forall_mem_cons.mpr ⟨(xw8 2 rfl rfl), List.forall_mem_cons.mpr ⟨(xw8 4 rfl rfl), List.forall_mem_cons.mpr ⟨(xw8 6 rfl rfl), List.forall_mem_cons.mpr ⟨(xw8 8 rfl rfl), List.forall_mem_cons.mpr ⟨(xw8 10 rfl rfl), List.forall_mem_cons.mpr ⟨(xw8 12 rfl rfl), List.forall_mem_cons.mpr ⟨(xw8 14 rfl rfl), List.forall_mem_cons.mpr ⟨(xw8 16 rfl rfl), fun _ h => absurd h List.not_mem_nil⟩⟩⟩⟩⟩⟩⟩⟩⟩⟩⟩
set_option maxRecDepth 100000 in
theorem xuw_6 : ∀ w ∈ u_ws "TextEngine$Chooser" xff_6 3, w ∈ xTB := by
  show ∀ w ∈ ([(Jvm.Cond.laysFinal "TextEngine$Chooser" "TextEngine$Chooser" "order" "[I"), (Jvm.Cond.laysFinal "TextEngine$Chooser" "TextEngine$Chooser" "sums" "[F"), (Jvm.Cond.lays "TextEngine$Chooser" "TextEngine$Chooser" "state" "J")] : List Cond), w ∈ xTB
  exact List.forall_mem_cons.mpr ⟨(xw8 31 rfl rfl), List.forall_mem_cons.mpr ⟨(xw9 1 rfl rfl), List.forall_mem_cons.mpr ⟨(xw9 3 rfl rfl), fun _ h => absurd h List.not_mem_nil⟩⟩⟩
set_option maxRecDepth 100000 in
theorem xuw_7 : ∀ w ∈ u_ws "TextEngine$Sayings" xff_7 2, w ∈ xTB := by
  show ∀ w ∈ ([(Jvm.Cond.laysFinal "TextEngine$Sayings" "TextEngine$Sayings" "row" "[I"), (Jvm.Cond.lays "TextEngine$Sayings" "TextEngine$Sayings" "total" "I")] : List Cond), w ∈ xTB
  exact List.forall_mem_cons.mpr ⟨(xw9 15 rfl rfl), List.forall_mem_cons.mpr ⟨(xw9 17 rfl rfl), fun _ h => absurd h List.not_mem_nil⟩⟩
set_option maxRecDepth 100000 in
theorem xuw_8 : ∀ w ∈ u_ws "TextEngine$Model" xff_8 7, w ∈ xTB := by
  show ∀ w ∈ ([(Jvm.Cond.laysFinal "TextEngine$Model" "TextEngine$Model" "facts" "[I"), (Jvm.Cond.laysFinal "TextEngine$Model" "TextEngine$Model" "words" "LTextEngine$Words;"), (Jvm.Cond.laysFinal "TextEngine$Model" "TextEngine$Model" "tensors" "LTextEngine$Tensors;"), (Jvm.Cond.lays "TextEngine$Model" "TextEngine$Model" "eps" "F"), (Jvm.Cond.lays "TextEngine$Model" "TextEngine$Model" "base" "F"), (Jvm.Cond.lays "TextEngine$Model" "TextEngine$Model" "headSize" "I"), (Jvm.Cond.lays "TextEngine$Model" "TextEngine$Model" "sharers" "I")] : List Cond), w ∈ xTB
  exact List.forall_mem_cons.mpr ⟨(xw13 1 rfl rfl), List.forall_mem_cons.mpr ⟨(xw13 3 rfl rfl), List.forall_mem_cons.mpr ⟨(xw13 5 rfl rfl), List.forall_mem_cons.mpr ⟨(xw13 7 rfl rfl), List.forall_mem_cons.mpr ⟨(xw13 9 rfl rfl), List.forall_mem_cons.mpr ⟨(xw13 11 rfl rfl), List.forall_mem_cons.mpr ⟨(xw13 13 rfl rfl), fun _ h => absurd h List.not_mem_nil⟩⟩⟩⟩⟩⟩⟩
set_option maxRecDepth 100000 in
theorem xuw_9 : ∀ w ∈ u_ws "TextEngine$Words" xff_9 6, w ∈ xTB := by
  show ∀ w ∈ ([(Jvm.Cond.laysFinal "TextEngine$Words" "TextEngine$Words" "tokens" "[J"), (Jvm.Cond.laysFinal "TextEngine$Words" "TextEngine$Words" "left" "[I"), (Jvm.Cond.laysFinal "TextEngine$Words" "TextEngine$Words" "right" "[I"), (Jvm.Cond.laysFinal "TextEngine$Words" "TextEngine$Words" "both" "[I"), (Jvm.Cond.lays "TextEngine$Words" "TextEngine$Words" "count" "I"), (Jvm.Cond.lays "TextEngine$Words" "TextEngine$Words" "merges" "I")] : List Cond), w ∈ xTB
  exact List.forall_mem_cons.mpr ⟨(xw10 12 rfl rfl), List.forall_mem_cons.mpr ⟨(xw10 14 rfl rfl), List.forall_mem_cons.mpr ⟨(xw11 0 rfl rfl), List.forall_mem_cons.mpr ⟨(xw11 2 rfl rfl), List.forall_mem_cons.mpr ⟨(xw11 4 rfl rfl), List.forall_mem_cons.mpr ⟨(xw11 6 rfl rfl), fun _ h => absurd h List.not_mem_nil⟩⟩⟩⟩⟩⟩
set_option maxRecDepth 100000 in
theorem xuw_10 : ∀ w ∈ u_ws "TextEngine$Tensors" xff_10 6, w ∈ xTB := by
  show ∀ w ∈ ([(Jvm.Cond.laysFinal "TextEngine$Tensors" "TextEngine$Tensors" "starts" "[I"), (Jvm.Cond.laysFinal "TextEngine$Tensors" "TextEngine$Tensors" "columns" "[I"), (Jvm.Cond.laysFinal "TextEngine$Tensors" "TextEngine$Tensors" "rows" "[I"), (Jvm.Cond.laysFinal "TextEngine$Tensors" "TextEngine$Tensors" "needed" "[I"), (Jvm.Cond.laysFinal "TextEngine$Tensors" "TextEngine$Tensors" "weights" "[F"), (Jvm.Cond.lays "TextEngine$Tensors" "TextEngine$Tensors" "count" "I")] : List Cond), w ∈ xTB
  exact List.forall_mem_cons.mpr ⟨(xw11 29 rfl rfl), List.forall_mem_cons.mpr ⟨(xw11 31 rfl rfl), List.forall_mem_cons.mpr ⟨(xw12 1 rfl rfl), List.forall_mem_cons.mpr ⟨(xw12 3 rfl rfl), List.forall_mem_cons.mpr ⟨(xw12 5 rfl rfl), List.forall_mem_cons.mpr ⟨(xw12 7 rfl rfl), fun _ h => absurd h List.not_mem_nil⟩⟩⟩⟩⟩⟩
set_option maxRecDepth 100000 in
theorem xuw_11 : ∀ w ∈ u_ws "TextEngineModel" xff_11 63, w ∈ xTB := by
  show ∀ w ∈ ([(Jvm.Cond.laysFinal "TextEngineModel" "TextEngineModel" "f" "[I"), (Jvm.Cond.lays "TextEngineModel" "TextEngineModel" "size" "I"), (Jvm.Cond.lays "TextEngineModel" "TextEngineModel" "at" "I"), (Jvm.Cond.lays "TextEngineModel" "TextEngineModel" "fault" "I"), (Jvm.Cond.lays "TextEngineModel" "TextEngineModel" "place" "I"), (Jvm.Cond.laysFinal "TextEngineModel" "TextEngineModel" "keyAt" "[I"), (Jvm.Cond.laysFinal "TextEngineModel" "TextEngineModel" "type" "[I"), (Jvm.Cond.laysFinal "TextEngineModel" "TextEngineModel" "valueAt" "[I"), (Jvm.Cond.laysFinal "TextEngineModel" "TextEngineModel" "nameAt" "[I"), (Jvm.Cond.laysFinal "TextEngineModel" "TextEngineModel" "columns" "[I"), (Jvm.Cond.laysFinal "TextEngineModel" "TextEngineModel" "rows" "[I"), (Jvm.Cond.laysFinal "TextEngineModel" "TextEngineModel" "packing" "[I"), (Jvm.Cond.laysFinal "TextEngineModel" "TextEngineModel" "offset" "[I"), (Jvm.Cond.lays "TextEngineModel" "TextEngineModel" "pairs" "I"), (Jvm.Cond.lays "TextEngineModel" "TextEngineModel" "tensors" "I"), (Jvm.Cond.laysFinal "TextEngineModel" "TextEngineModel" "say" "[I"), (Jvm.Cond.laysFinal "TextEngineModel" "TextEngineModel" "tokenAt" "[I"), (Jvm.Cond.laysFinal "TextEngineModel" "TextEngineModel" "mergeOne" "[I"), (Jvm.Cond.laysFinal "TextEngineModel" "TextEngineModel" "mergeTwo" "[I"), (Jvm.Cond.laysFinal "TextEngineModel" "TextEngineModel" "mergeTo" "[I"), (Jvm.Cond.laysFinal "TextEngineModel" "TextEngineModel" "needed" "[I"), (Jvm.Cond.laysFinal "TextEngineModel" "TextEngineModel" "keyed" "[I"), (Jvm.Cond.lays "TextEngineModel" "TextEngineModel" "tokens" "I"), (Jvm.Cond.lays "TextEngineModel" "TextEngineModel" "merges" "I"), (Jvm.Cond.lays "TextEngineModel" "TextEngineModel" "dataAt" "I"), (Jvm.Cond.lays "TextEngineModel" "TextEngineModel" "epsilon" "F"), (Jvm.Cond.lays "TextEngineModel" "TextEngineModel" "turn" "F"), (Jvm.Cond.laysFinal "TextEngineModel" "TextEngineModel" "fact" "[I"), (Jvm.Cond.laysFinal "TextEngineModel" "TextEngineModel" "letters" "[I"), (Jvm.Cond.laysFinal "TextEngineModel" "TextEngineModel" "letterSize" "[I"), (Jvm.Cond.laysFinal "TextEngineModel" "TextEngineModel" "one" "[I"), (Jvm.Cond.laysFinal "TextEngineModel" "TextEngineModel" "two" "[I"), (Jvm.Cond.laysFinal "TextEngineModel" "TextEngineModel" "to" "[I"), (Jvm.Cond.laysFinal "TextEngineModel" "TextEngineModel" "tensor" "[I"), (Jvm.Cond.laysFinal "TextEngineModel" "TextEngineModel" "wide" "[I"), (Jvm.Cond.laysFinal "TextEngineModel" "TextEngineModel" "high" "[I"), (Jvm.Cond.laysFinal "TextEngineModel" "TextEngineModel" "begins" "[I"), (Jvm.Cond.laysFinal "TextEngineModel" "TextEngineModel" "weights" "[F"), (Jvm.Cond.lays "TextEngineModel" "TextEngineModel" "has" "Z"), (Jvm.Cond.lays "TextEngineModel" "TextEngineModel" "eps" "F"), (Jvm.Cond.lays "TextEngineModel" "TextEngineModel" "base" "F"), (Jvm.Cond.laysFinal "TextEngineModel" "TextEngineModel" "text" "[I"), (Jvm.Cond.laysFinal "TextEngineModel" "TextEngineModel" "encoded" "[I"), (Jvm.Cond.laysFinal "TextEngineModel" "TextEngineModel" "told" "[I"), (Jvm.Cond.laysFinal "TextEngineModel" "TextEngineModel" "order" "[I"), (Jvm.Cond.laysFinal "TextEngineModel" "TextEngineModel" "x" "[F"), (Jvm.Cond.laysFinal "TextEngineModel" "TextEngineModel" "y" "[F"), (Jvm.Cond.laysFinal "TextEngineModel" "TextEngineModel" "q" "[F"), (Jvm.Cond.laysFinal "TextEngineModel" "TextEngineModel" "k" "[F"), (Jvm.Cond.laysFinal "TextEngineModel" "TextEngineModel" "v" "[F"), (Jvm.Cond.laysFinal "TextEngineModel" "TextEngineModel" "w" "[F"), (Jvm.Cond.laysFinal "TextEngineModel" "TextEngineModel" "g" "[F"), (Jvm.Cond.laysFinal "TextEngineModel" "TextEngineModel" "u" "[F"), (Jvm.Cond.laysFinal "TextEngineModel" "TextEngineModel" "z" "[F"), (Jvm.Cond.laysFinal "TextEngineModel" "TextEngineModel" "keys" "[F"), (Jvm.Cond.laysFinal "TextEngineModel" "TextEngineModel" "values" "[F"), (Jvm.Cond.laysFinal "TextEngineModel" "TextEngineModel" "logits" "[F"), (Jvm.Cond.laysFinal "TextEngineModel" "TextEngineModel" "chances" "[F"), (Jvm.Cond.lays "TextEngineModel" "TextEngineModel" "texts" "I"), (Jvm.Cond.lays "TextEngineModel" "TextEngineModel" "encodes" "I"), (Jvm.Cond.lays "TextEngineModel" "TextEngineModel" "steps" "I"), (Jvm.Cond.lays "TextEngineModel" "TextEngineModel" "says" "I"), (Jvm.Cond.lays "TextEngineModel" "TextEngineModel" "seed" "J")] : List Cond), w ∈ xTB
  exact List.forall_mem_cons.mpr ⟨(xw33 14 rfl rfl), List.forall_mem_cons.mpr ⟨(xw33 16 rfl rfl), List.forall_mem_cons.mpr ⟨(xw33 18 rfl rfl), List.forall_mem_cons.mpr ⟨(xw33 20 rfl rfl), List.forall_mem_cons.mpr ⟨(xw33 22 rfl rfl), List.forall_mem_cons.mpr ⟨(xw33 24 rfl rfl), List.forall_mem_cons.mpr ⟨(xw33 26 rfl rfl), List.forall_mem_cons.mpr ⟨(xw33 28 rfl rfl), List.forall_mem_cons.mpr ⟨(xw33 30 rfl rfl), List.forall_mem_cons.mpr ⟨(xw34 0 rfl rfl), List.forall_mem_cons.mpr ⟨(xw34 2 rfl rfl), List.forall_mem_cons.mpr ⟨(xw34 4 rfl rfl), List.forall_mem_cons.mpr ⟨(xw34 6 rfl rfl), List.forall_mem_cons.mpr ⟨(xw34 8 rfl rfl), List.forall_mem_cons.mpr ⟨(xw34 10 rfl rfl), List.forall_mem_cons.mpr ⟨(xw34 12 rfl rfl), List.forall_mem_cons.mpr ⟨(xw34 14 rfl rfl), List.forall_mem_cons.mpr ⟨(xw35 0 rfl rfl), List.forall_mem_cons.mpr ⟨(xw35 2 rfl rfl), List.forall_mem_cons.mpr ⟨(xw35 4 rfl rfl), List.forall_mem_cons.mpr ⟨(xw35 6 rfl rfl), List.forall_mem_cons.mpr ⟨(xw35 8 rfl rfl), List.forall_mem_cons.mpr ⟨(xw35 10 rfl rfl), List.forall_mem_cons.mpr ⟨(xw35 12 rfl rfl), List.forall_mem_cons.mpr ⟨(xw35 14 rfl rfl), List.forall_mem_cons.mpr ⟨(xw35 16 rfl rfl), List.forall_mem_cons.mpr ⟨(xw35 18 rfl rfl), List.forall_mem_cons.mpr ⟨(xw35 20 rfl rfl), List.forall_mem_cons.mpr ⟨(xw35 22 rfl rfl), List.forall_mem_cons.mpr ⟨(xw35 24 rfl rfl), List.forall_mem_cons.mpr ⟨(xw35 26 rfl rfl), List.forall_mem_cons.mpr ⟨(xw35 28 rfl rfl), List.forall_mem_cons.mpr ⟨(xw35 30 rfl rfl), List.forall_mem_cons.mpr ⟨(xw36 0 rfl rfl), List.forall_mem_cons.mpr ⟨(xw36 2 rfl rfl), List.forall_mem_cons.mpr ⟨(xw36 4 rfl rfl), List.forall_mem_cons.mpr ⟨(xw36 6 rfl rfl), List.forall_mem_cons.mpr ⟨(xw36 8 rfl rfl), List.forall_mem_cons.mpr ⟨(xw36 10 rfl rfl), List.forall_mem_cons.mpr ⟨(xw36 12 rfl rfl), List.forall_mem_cons.mpr ⟨(xw36 14 rfl rfl), List.forall_mem_cons.mpr ⟨(xw36 16 rfl rfl), List.forall_mem_cons.mpr ⟨(xw36 18 rfl rfl), List.forall_mem_cons.mpr ⟨(xw36 20 rfl rfl), List.forall_mem_cons.mpr ⟨(xw36 22 rfl rfl), List.forall_mem_cons.mpr ⟨(xw36 24 rfl rfl), List.forall_mem_cons.mpr ⟨(xw36 26 rfl rfl), List.forall_mem_cons.mpr ⟨(xw36 28 rfl rfl), List.forall_mem_cons.mpr ⟨(xw36 30 rfl rfl), List.forall_mem_cons.mpr ⟨(xw37 0 rfl rfl), List.forall_mem_cons.mpr ⟨(xw37 2 rfl rfl), List.forall_mem_cons.mpr ⟨(xw37 4 rfl rfl), List.forall_mem_cons.mpr ⟨(xw37 6 rfl rfl), List.forall_mem_cons.mpr ⟨(xw37 8 rfl rfl), List.forall_mem_cons.mpr ⟨(xw37 10 rfl rfl), List.forall_mem_cons.mpr ⟨(xw37 12 rfl rfl), List.forall_mem_cons.mpr ⟨(xw37 14 rfl rfl), List.forall_mem_cons.mpr ⟨(xw37 16 rfl rfl), List.forall_mem_cons.mpr ⟨(xw37 18 rfl rfl), List.forall_mem_cons.mpr ⟨(xw37 20 rfl rfl), List.forall_mem_cons.mpr ⟨(xw37 22 rfl rfl), List.forall_mem_cons.mpr ⟨(xw37 24 rfl rfl), List.forall_mem_cons.mpr ⟨(xw37 26 rfl rfl), fun _ h => absurd h List.not_mem_nil⟩⟩⟩⟩⟩⟩⟩⟩⟩⟩⟩⟩⟩⟩⟩⟩⟩⟩⟩⟩⟩⟩⟩⟩⟩⟩⟩⟩⟩⟩⟩⟩⟩⟩⟩⟩⟩⟩⟩⟩⟩⟩⟩⟩⟩⟩⟩⟩⟩⟩⟩⟩⟩⟩⟩⟩⟩⟩⟩⟩⟩⟩⟩
theorem xall_lt {N : Nat} {p : Nat → Bool} (h : (List.range N).all p = true) : ∀ k, k < N → p k = true := fun k hk => List.all_eq_true.mp h k (List.mem_range.mpr hk)
end
