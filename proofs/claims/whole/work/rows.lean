section
-- ===== PART A: goes FIRST, ahead of the names: the tables' words, and 'selects' of the private methods out of them =====
/-- a private method of a class that the tables say can be made, by its rows of tables_1 -/
def lw_okq (q : MethodName × Nat) : Prop := (q.1.cls ≠ "java/lang/invoke/MethodHandle" ∧ q.1.cls ≠ "java/lang/invoke/VarHandle") ∧ Cond.instantiable q.1.cls q.2 ∈ tables_1 ∧ Cond.privateMethod q.1 ∈ tables_1 ∧ Cond.instanceMethod q.1 ∈ tables_1
theorem lw_p0 : lw_okq (⟨"TextEngine$Reader", "readHead", "()Z"⟩, 14) := ⟨⟨by decide +kernel, by decide +kernel⟩, List.mem_of_getElem? (i := 45) (by decide +kernel), List.mem_of_getElem? (i := 380) (by decide +kernel), List.mem_of_getElem? (i := 381) (by decide +kernel)⟩
theorem lw_p1 : lw_okq (⟨"TextEngine$Reader", "readNumber", "(I)J"⟩, 14) := ⟨⟨by decide +kernel, by decide +kernel⟩, List.mem_of_getElem? (i := 45) (by decide +kernel), List.mem_of_getElem? (i := 384) (by decide +kernel), List.mem_of_getElem? (i := 385) (by decide +kernel)⟩
theorem lw_p2 : lw_okq (⟨"TextEngine$Reader", "fail", "(II)Z"⟩, 14) := ⟨⟨by decide +kernel, by decide +kernel⟩, List.mem_of_getElem? (i := 45) (by decide +kernel), List.mem_of_getElem? (i := 388) (by decide +kernel), List.mem_of_getElem? (i := 389) (by decide +kernel)⟩
theorem lw_p3 : lw_okq (⟨"TextEngine$Reader", "readSmall", "(III)I"⟩, 14) := ⟨⟨by decide +kernel, by decide +kernel⟩, List.mem_of_getElem? (i := 45) (by decide +kernel), List.mem_of_getElem? (i := 403) (by decide +kernel), List.mem_of_getElem? (i := 404) (by decide +kernel)⟩
theorem lw_p4 : lw_okq (⟨"TextEngine$Reader", "readPairs", "()Z"⟩, 14) := ⟨⟨by decide +kernel, by decide +kernel⟩, List.mem_of_getElem? (i := 45) (by decide +kernel), List.mem_of_getElem? (i := 408) (by decide +kernel), List.mem_of_getElem? (i := 409) (by decide +kernel)⟩
theorem lw_p5 : lw_okq (⟨"TextEngine$Reader", "readName", "([II)Z"⟩, 14) := ⟨⟨by decide +kernel, by decide +kernel⟩, List.mem_of_getElem? (i := 45) (by decide +kernel), List.mem_of_getElem? (i := 412) (by decide +kernel), List.mem_of_getElem? (i := 413) (by decide +kernel)⟩
theorem lw_p6 : lw_okq (⟨"TextEngine$Reader", "readString", "(I)Z"⟩, 14) := ⟨⟨by decide +kernel, by decide +kernel⟩, List.mem_of_getElem? (i := 45) (by decide +kernel), List.mem_of_getElem? (i := 416) (by decide +kernel), List.mem_of_getElem? (i := 417) (by decide +kernel)⟩
theorem lw_p7 : lw_okq (⟨"TextEngine$Reader", "readValue", "(II)Z"⟩, 14) := ⟨⟨by decide +kernel, by decide +kernel⟩, List.mem_of_getElem? (i := 45) (by decide +kernel), List.mem_of_getElem? (i := 424) (by decide +kernel), List.mem_of_getElem? (i := 425) (by decide +kernel)⟩
theorem lw_p8 : lw_okq (⟨"TextEngine$Reader", "readInfos", "()V"⟩, 14) := ⟨⟨by decide +kernel, by decide +kernel⟩, List.mem_of_getElem? (i := 45) (by decide +kernel), List.mem_of_getElem? (i := 428) (by decide +kernel), List.mem_of_getElem? (i := 429) (by decide +kernel)⟩
theorem lw_p9 : lw_okq (⟨"TextEngine$Reader", "readSides", "(I)Z"⟩, 14) := ⟨⟨by decide +kernel, by decide +kernel⟩, List.mem_of_getElem? (i := 45) (by decide +kernel), List.mem_of_getElem? (i := 432) (by decide +kernel), List.mem_of_getElem? (i := 433) (by decide +kernel)⟩
theorem lw_p10 : lw_okq (⟨"TextEngine$Maker", "findKeys", "()Z"⟩, 3) := ⟨⟨by decide +kernel, by decide +kernel⟩, List.mem_of_getElem? (i := 105) (by decide +kernel), List.mem_of_getElem? (i := 440) (by decide +kernel), List.mem_of_getElem? (i := 441) (by decide +kernel)⟩
theorem lw_p11 : lw_okq (⟨"TextEngine$Maker", "findKey", "(ILjava/lang/String;I)Z"⟩, 3) := ⟨⟨by decide +kernel, by decide +kernel⟩, List.mem_of_getElem? (i := 105) (by decide +kernel), List.mem_of_getElem? (i := 445) (by decide +kernel), List.mem_of_getElem? (i := 446) (by decide +kernel)⟩
theorem lw_p12 : lw_okq (⟨"TextEngine$Maker", "isArrayOf", "(II)Z"⟩, 3) := ⟨⟨by decide +kernel, by decide +kernel⟩, List.mem_of_getElem? (i := 105) (by decide +kernel), List.mem_of_getElem? (i := 514) (by decide +kernel), List.mem_of_getElem? (i := 515) (by decide +kernel)⟩
theorem lw_p13 : lw_okq (⟨"TextEngine$Maker", "isArrayOfNumberArrays", "(I)Z"⟩, 3) := ⟨⟨by decide +kernel, by decide +kernel⟩, List.mem_of_getElem? (i := 105) (by decide +kernel), List.mem_of_getElem? (i := 520) (by decide +kernel), List.mem_of_getElem? (i := 521) (by decide +kernel)⟩
theorem lw_p14 : lw_okq (⟨"TextEngine$Maker", "takeNumbers", "(LTextEngine$Model;)Z"⟩, 3) := ⟨⟨by decide +kernel, by decide +kernel⟩, List.mem_of_getElem? (i := 105) (by decide +kernel), List.mem_of_getElem? (i := 526) (by decide +kernel), List.mem_of_getElem? (i := 527) (by decide +kernel)⟩
theorem lw_p15 : lw_okq (⟨"TextEngine$Maker", "takeNumber", "(LTextEngine$Model;III)Z"⟩, 3) := ⟨⟨by decide +kernel, by decide +kernel⟩, List.mem_of_getElem? (i := 105) (by decide +kernel), List.mem_of_getElem? (i := 530) (by decide +kernel), List.mem_of_getElem? (i := 531) (by decide +kernel)⟩
def lw_privs_1 : List (MethodName × Nat) := [(⟨"TextEngine$Reader", "readHead", "()Z"⟩, 14), (⟨"TextEngine$Reader", "readNumber", "(I)J"⟩, 14), (⟨"TextEngine$Reader", "fail", "(II)Z"⟩, 14), (⟨"TextEngine$Reader", "readSmall", "(III)I"⟩, 14), (⟨"TextEngine$Reader", "readPairs", "()Z"⟩, 14), (⟨"TextEngine$Reader", "readName", "([II)Z"⟩, 14), (⟨"TextEngine$Reader", "readString", "(I)Z"⟩, 14), (⟨"TextEngine$Reader", "readValue", "(II)Z"⟩, 14), (⟨"TextEngine$Reader", "readInfos", "()V"⟩, 14), (⟨"TextEngine$Reader", "readSides", "(I)Z"⟩, 14), (⟨"TextEngine$Maker", "findKeys", "()Z"⟩, 3), (⟨"TextEngine$Maker", "findKey", "(ILjava/lang/String;I)Z"⟩, 3), (⟨"TextEngine$Maker", "isArrayOf", "(II)Z"⟩, 3), (⟨"TextEngine$Maker", "isArrayOfNumberArrays", "(I)Z"⟩, 3), (⟨"TextEngine$Maker", "takeNumbers", "(LTextEngine$Model;)Z"⟩, 3), (⟨"TextEngine$Maker", "takeNumber", "(LTextEngine$Model;III)Z"⟩, 3)]
theorem lw_r1 : ∀ q ∈ lw_privs_1, lw_okq q := List.forall_mem_cons.mpr ⟨lw_p0, List.forall_mem_cons.mpr ⟨lw_p1, List.forall_mem_cons.mpr ⟨lw_p2, List.forall_mem_cons.mpr ⟨lw_p3, List.forall_mem_cons.mpr ⟨lw_p4, List.forall_mem_cons.mpr ⟨lw_p5, List.forall_mem_cons.mpr ⟨lw_p6, List.forall_mem_cons.mpr ⟨lw_p7, List.forall_mem_cons.mpr ⟨lw_p8, List.forall_mem_cons.mpr ⟨lw_p9, List.forall_mem_cons.mpr ⟨lw_p10, List.forall_mem_cons.mpr ⟨lw_p11, List.forall_mem_cons.mpr ⟨lw_p12, List.forall_mem_cons.mpr ⟨lw_p13, List.forall_mem_cons.mpr ⟨lw_p14, List.forall_mem_cons.mpr ⟨lw_p15, fun _ h => absurd h List.not_mem_nil⟩⟩⟩⟩⟩⟩⟩⟩⟩⟩⟩⟩⟩⟩⟩⟩
theorem lw_p16 : lw_okq (⟨"TextEngine$Maker", "takeHeads", "(LTextEngine$Model;)Z"⟩, 3) := ⟨⟨by decide +kernel, by decide +kernel⟩, List.mem_of_getElem? (i := 105) (by decide +kernel), List.mem_of_getElem? (i := 535) (by decide +kernel), List.mem_of_getElem? (i := 536) (by decide +kernel)⟩
theorem lw_p17 : lw_okq (⟨"TextEngine$Maker", "takeAlign", "(LTextEngine$Model;)Z"⟩, 3) := ⟨⟨by decide +kernel, by decide +kernel⟩, List.mem_of_getElem? (i := 105) (by decide +kernel), List.mem_of_getElem? (i := 539) (by decide +kernel), List.mem_of_getElem? (i := 540) (by decide +kernel)⟩
theorem lw_p18 : lw_okq (⟨"TextEngine$Maker", "takeReals", "(LTextEngine$Model;)Z"⟩, 3) := ⟨⟨by decide +kernel, by decide +kernel⟩, List.mem_of_getElem? (i := 105) (by decide +kernel), List.mem_of_getElem? (i := 543) (by decide +kernel), List.mem_of_getElem? (i := 544) (by decide +kernel)⟩
theorem lw_p19 : lw_okq (⟨"TextEngine$Maker", "takeWords", "(LTextEngine$Model;)Z"⟩, 3) := ⟨⟨by decide +kernel, by decide +kernel⟩, List.mem_of_getElem? (i := 105) (by decide +kernel), List.mem_of_getElem? (i := 557) (by decide +kernel), List.mem_of_getElem? (i := 558) (by decide +kernel)⟩
theorem lw_p20 : lw_okq (⟨"TextEngine$Maker", "takeTokens", "(LTextEngine$Model;)Z"⟩, 3) := ⟨⟨by decide +kernel, by decide +kernel⟩, List.mem_of_getElem? (i := 105) (by decide +kernel), List.mem_of_getElem? (i := 561) (by decide +kernel), List.mem_of_getElem? (i := 562) (by decide +kernel)⟩
theorem lw_p21 : lw_okq (⟨"TextEngine$Maker", "takeMerges", "(LTextEngine$Model;)Z"⟩, 3) := ⟨⟨by decide +kernel, by decide +kernel⟩, List.mem_of_getElem? (i := 105) (by decide +kernel), List.mem_of_getElem? (i := 576) (by decide +kernel), List.mem_of_getElem? (i := 577) (by decide +kernel)⟩
theorem lw_p22 : lw_okq (⟨"TextEngine$Words", "join", "(II)I"⟩, 6) := ⟨⟨by decide +kernel, by decide +kernel⟩, List.mem_of_getElem? (i := 219) (by decide +kernel), List.mem_of_getElem? (i := 584) (by decide +kernel), List.mem_of_getElem? (i := 585) (by decide +kernel)⟩
theorem lw_p23 : lw_okq (⟨"TextEngine$Words", "lengthOf", "(I)I"⟩, 6) := ⟨⟨by decide +kernel, by decide +kernel⟩, List.mem_of_getElem? (i := 219) (by decide +kernel), List.mem_of_getElem? (i := 588) (by decide +kernel), List.mem_of_getElem? (i := 589) (by decide +kernel)⟩
theorem lw_p24 : lw_okq (⟨"TextEngine$Words", "octetsOf", "(I)J"⟩, 6) := ⟨⟨by decide +kernel, by decide +kernel⟩, List.mem_of_getElem? (i := 219) (by decide +kernel), List.mem_of_getElem? (i := 592) (by decide +kernel), List.mem_of_getElem? (i := 593) (by decide +kernel)⟩
theorem lw_p25 : lw_okq (⟨"TextEngine$Maker", "takeShapes", "(LTextEngine$Model;)Z"⟩, 3) := ⟨⟨by decide +kernel, by decide +kernel⟩, List.mem_of_getElem? (i := 105) (by decide +kernel), List.mem_of_getElem? (i := 597) (by decide +kernel), List.mem_of_getElem? (i := 598) (by decide +kernel)⟩
theorem lw_p26 : lw_okq (⟨"TextEngine$Maker", "dataBegin", "(I)I"⟩, 3) := ⟨⟨by decide +kernel, by decide +kernel⟩, List.mem_of_getElem? (i := 105) (by decide +kernel), List.mem_of_getElem? (i := 615) (by decide +kernel), List.mem_of_getElem? (i := 616) (by decide +kernel)⟩
theorem lw_p27 : lw_okq (⟨"TextEngine$Maker", "areWellPlaced", "(II)Z"⟩, 3) := ⟨⟨by decide +kernel, by decide +kernel⟩, List.mem_of_getElem? (i := 105) (by decide +kernel), List.mem_of_getElem? (i := 619) (by decide +kernel), List.mem_of_getElem? (i := 620) (by decide +kernel)⟩
theorem lw_p28 : lw_okq (⟨"TextEngine$Maker", "overlapsEarlier", "(I)Z"⟩, 3) := ⟨⟨by decide +kernel, by decide +kernel⟩, List.mem_of_getElem? (i := 105) (by decide +kernel), List.mem_of_getElem? (i := 627) (by decide +kernel), List.mem_of_getElem? (i := 628) (by decide +kernel)⟩
theorem lw_p29 : lw_okq (⟨"TextEngine$Maker", "takeWeights", "(LTextEngine$Tensors;I)Z"⟩, 3) := ⟨⟨by decide +kernel, by decide +kernel⟩, List.mem_of_getElem? (i := 105) (by decide +kernel), List.mem_of_getElem? (i := 631) (by decide +kernel), List.mem_of_getElem? (i := 632) (by decide +kernel)⟩
theorem lw_p30 : lw_okq (⟨"TextEngine$Maker", "unpack", "(LTextEngine$Tensors;II)Z"⟩, 3) := ⟨⟨by decide +kernel, by decide +kernel⟩, List.mem_of_getElem? (i := 105) (by decide +kernel), List.mem_of_getElem? (i := 635) (by decide +kernel), List.mem_of_getElem? (i := 636) (by decide +kernel)⟩
theorem lw_p31 : lw_okq (⟨"TextEngine$Maker", "unpackHalves", "([FIII)Z"⟩, 3) := ⟨⟨by decide +kernel, by decide +kernel⟩, List.mem_of_getElem? (i := 105) (by decide +kernel), List.mem_of_getElem? (i := 639) (by decide +kernel), List.mem_of_getElem? (i := 640) (by decide +kernel)⟩
def lw_privs_2 : List (MethodName × Nat) := [(⟨"TextEngine$Maker", "takeHeads", "(LTextEngine$Model;)Z"⟩, 3), (⟨"TextEngine$Maker", "takeAlign", "(LTextEngine$Model;)Z"⟩, 3), (⟨"TextEngine$Maker", "takeReals", "(LTextEngine$Model;)Z"⟩, 3), (⟨"TextEngine$Maker", "takeWords", "(LTextEngine$Model;)Z"⟩, 3), (⟨"TextEngine$Maker", "takeTokens", "(LTextEngine$Model;)Z"⟩, 3), (⟨"TextEngine$Maker", "takeMerges", "(LTextEngine$Model;)Z"⟩, 3), (⟨"TextEngine$Words", "join", "(II)I"⟩, 6), (⟨"TextEngine$Words", "lengthOf", "(I)I"⟩, 6), (⟨"TextEngine$Words", "octetsOf", "(I)J"⟩, 6), (⟨"TextEngine$Maker", "takeShapes", "(LTextEngine$Model;)Z"⟩, 3), (⟨"TextEngine$Maker", "dataBegin", "(I)I"⟩, 3), (⟨"TextEngine$Maker", "areWellPlaced", "(II)Z"⟩, 3), (⟨"TextEngine$Maker", "overlapsEarlier", "(I)Z"⟩, 3), (⟨"TextEngine$Maker", "takeWeights", "(LTextEngine$Tensors;I)Z"⟩, 3), (⟨"TextEngine$Maker", "unpack", "(LTextEngine$Tensors;II)Z"⟩, 3), (⟨"TextEngine$Maker", "unpackHalves", "([FIII)Z"⟩, 3)]
theorem lw_r2 : ∀ q ∈ lw_privs_2, lw_okq q := List.forall_mem_cons.mpr ⟨lw_p16, List.forall_mem_cons.mpr ⟨lw_p17, List.forall_mem_cons.mpr ⟨lw_p18, List.forall_mem_cons.mpr ⟨lw_p19, List.forall_mem_cons.mpr ⟨lw_p20, List.forall_mem_cons.mpr ⟨lw_p21, List.forall_mem_cons.mpr ⟨lw_p22, List.forall_mem_cons.mpr ⟨lw_p23, List.forall_mem_cons.mpr ⟨lw_p24, List.forall_mem_cons.mpr ⟨lw_p25, List.forall_mem_cons.mpr ⟨lw_p26, List.forall_mem_cons.mpr ⟨lw_p27, List.forall_mem_cons.mpr ⟨lw_p28, List.forall_mem_cons.mpr ⟨lw_p29, List.forall_mem_cons.mpr ⟨lw_p30, List.forall_mem_cons.mpr ⟨lw_p31, fun _ h => absurd h List.not_mem_nil⟩⟩⟩⟩⟩⟩⟩⟩⟩⟩⟩⟩⟩⟩⟩⟩
theorem lw_p32 : lw_okq (⟨"TextEngine$Maker", "unpackFours", "([FIFI)V"⟩, 3) := ⟨⟨by decide +kernel, by decide +kernel⟩, List.mem_of_getElem? (i := 105) (by decide +kernel), List.mem_of_getElem? (i := 646) (by decide +kernel), List.mem_of_getElem? (i := 647) (by decide +kernel)⟩
theorem lw_p33 : lw_okq (⟨"TextEngine$Maker", "unpackEights", "([FIFI)V"⟩, 3) := ⟨⟨by decide +kernel, by decide +kernel⟩, List.mem_of_getElem? (i := 105) (by decide +kernel), List.mem_of_getElem? (i := 650) (by decide +kernel), List.mem_of_getElem? (i := 651) (by decide +kernel)⟩
theorem lw_p34 : lw_okq (⟨"TextEngine", "takeSpare", "()V"⟩, 10) := ⟨⟨by decide +kernel, by decide +kernel⟩, List.mem_of_getElem? (i := 19) (by decide +kernel), List.mem_of_getElem? (i := 654) (by decide +kernel), List.mem_of_getElem? (i := 655) (by decide +kernel)⟩
theorem lw_p35 : lw_okq (⟨"TextEngine", "forget", "()V"⟩, 10) := ⟨⟨by decide +kernel, by decide +kernel⟩, List.mem_of_getElem? (i := 19) (by decide +kernel), List.mem_of_getElem? (i := 658) (by decide +kernel), List.mem_of_getElem? (i := 659) (by decide +kernel)⟩
theorem lw_p36 : lw_okq (⟨"TextEngine$Encoder", "mergeOnce", "(LTextEngine$Words;)Z"⟩, 2) := ⟨⟨by decide +kernel, by decide +kernel⟩, List.mem_of_getElem? (i := 121) (by decide +kernel), List.mem_of_getElem? (i := 704) (by decide +kernel), List.mem_of_getElem? (i := 705) (by decide +kernel)⟩
theorem lw_p37 : lw_okq (⟨"TextEngine$Encoder", "join", "(II)V"⟩, 2) := ⟨⟨by decide +kernel, by decide +kernel⟩, List.mem_of_getElem? (i := 121) (by decide +kernel), List.mem_of_getElem? (i := 708) (by decide +kernel), List.mem_of_getElem? (i := 709) (by decide +kernel)⟩
theorem lw_p38 : lw_okq (⟨"TextEngine$Network", "attend", "(LTextEngine$Model;II)V"⟩, 11) := ⟨⟨by decide +kernel, by decide +kernel⟩, List.mem_of_getElem? (i := 136) (by decide +kernel), List.mem_of_getElem? (i := 737) (by decide +kernel), List.mem_of_getElem? (i := 738) (by decide +kernel)⟩
theorem lw_p39 : lw_okq (⟨"TextEngine$Network", "normalise", "(LTextEngine$Model;I)V"⟩, 11) := ⟨⟨by decide +kernel, by decide +kernel⟩, List.mem_of_getElem? (i := 136) (by decide +kernel), List.mem_of_getElem? (i := 744) (by decide +kernel), List.mem_of_getElem? (i := 745) (by decide +kernel)⟩
theorem lw_p40 : lw_okq (⟨"TextEngine$Network", "turn", "(LTextEngine$Model;[FII)V"⟩, 11) := ⟨⟨by decide +kernel, by decide +kernel⟩, List.mem_of_getElem? (i := 136) (by decide +kernel), List.mem_of_getElem? (i := 759) (by decide +kernel), List.mem_of_getElem? (i := 760) (by decide +kernel)⟩
theorem lw_p41 : lw_okq (⟨"TextEngine$Network", "weighHead", "(LTextEngine$Model;[FII)F"⟩, 11) := ⟨⟨by decide +kernel, by decide +kernel⟩, List.mem_of_getElem? (i := 136) (by decide +kernel), List.mem_of_getElem? (i := 764) (by decide +kernel), List.mem_of_getElem? (i := 765) (by decide +kernel)⟩
theorem lw_p42 : lw_okq (⟨"TextEngine$Network", "earliest", "(LTextEngine$Model;)I"⟩, 11) := ⟨⟨by decide +kernel, by decide +kernel⟩, List.mem_of_getElem? (i := 136) (by decide +kernel), List.mem_of_getElem? (i := 768) (by decide +kernel), List.mem_of_getElem? (i := 769) (by decide +kernel)⟩
theorem lw_p43 : lw_okq (⟨"TextEngine$Network", "mixHead", "(LTextEngine$Model;[FIIF)V"⟩, 11) := ⟨⟨by decide +kernel, by decide +kernel⟩, List.mem_of_getElem? (i := 136) (by decide +kernel), List.mem_of_getElem? (i := 779) (by decide +kernel), List.mem_of_getElem? (i := 780) (by decide +kernel)⟩
theorem lw_p44 : lw_okq (⟨"TextEngine$Network", "feed", "(LTextEngine$Model;I)V"⟩, 11) := ⟨⟨by decide +kernel, by decide +kernel⟩, List.mem_of_getElem? (i := 136) (by decide +kernel), List.mem_of_getElem? (i := 787) (by decide +kernel), List.mem_of_getElem? (i := 788) (by decide +kernel)⟩
theorem lw_p45 : lw_okq (⟨"TextEngine", "hasNoLogits", "()Z"⟩, 10) := ⟨⟨by decide +kernel, by decide +kernel⟩, List.mem_of_getElem? (i := 19) (by decide +kernel), List.mem_of_getElem? (i := 795) (by decide +kernel), List.mem_of_getElem? (i := 796) (by decide +kernel)⟩
theorem lw_p46 : lw_okq (⟨"TextEngine$Chooser", "addUp", "([FFI)V"⟩, 3) := ⟨⟨by decide +kernel, by decide +kernel⟩, List.mem_of_getElem? (i := 181) (by decide +kernel), List.mem_of_getElem? (i := 820) (by decide +kernel), List.mem_of_getElem? (i := 821) (by decide +kernel)⟩
theorem lw_p47 : lw_okq (⟨"TextEngine$Chooser", "firstAtLeast", "(FI)I"⟩, 3) := ⟨⟨by decide +kernel, by decide +kernel⟩, List.mem_of_getElem? (i := 181) (by decide +kernel), List.mem_of_getElem? (i := 825) (by decide +kernel), List.mem_of_getElem? (i := 826) (by decide +kernel)⟩
def lw_privs_3 : List (MethodName × Nat) := [(⟨"TextEngine$Maker", "unpackFours", "([FIFI)V"⟩, 3), (⟨"TextEngine$Maker", "unpackEights", "([FIFI)V"⟩, 3), (⟨"TextEngine", "takeSpare", "()V"⟩, 10), (⟨"TextEngine", "forget", "()V"⟩, 10), (⟨"TextEngine$Encoder", "mergeOnce", "(LTextEngine$Words;)Z"⟩, 2), (⟨"TextEngine$Encoder", "join", "(II)V"⟩, 2), (⟨"TextEngine$Network", "attend", "(LTextEngine$Model;II)V"⟩, 11), (⟨"TextEngine$Network", "normalise", "(LTextEngine$Model;I)V"⟩, 11), (⟨"TextEngine$Network", "turn", "(LTextEngine$Model;[FII)V"⟩, 11), (⟨"TextEngine$Network", "weighHead", "(LTextEngine$Model;[FII)F"⟩, 11), (⟨"TextEngine$Network", "earliest", "(LTextEngine$Model;)I"⟩, 11), (⟨"TextEngine$Network", "mixHead", "(LTextEngine$Model;[FIIF)V"⟩, 11), (⟨"TextEngine$Network", "feed", "(LTextEngine$Model;I)V"⟩, 11), (⟨"TextEngine", "hasNoLogits", "()Z"⟩, 10), (⟨"TextEngine$Chooser", "addUp", "([FFI)V"⟩, 3), (⟨"TextEngine$Chooser", "firstAtLeast", "(FI)I"⟩, 3)]
theorem lw_r3 : ∀ q ∈ lw_privs_3, lw_okq q := List.forall_mem_cons.mpr ⟨lw_p32, List.forall_mem_cons.mpr ⟨lw_p33, List.forall_mem_cons.mpr ⟨lw_p34, List.forall_mem_cons.mpr ⟨lw_p35, List.forall_mem_cons.mpr ⟨lw_p36, List.forall_mem_cons.mpr ⟨lw_p37, List.forall_mem_cons.mpr ⟨lw_p38, List.forall_mem_cons.mpr ⟨lw_p39, List.forall_mem_cons.mpr ⟨lw_p40, List.forall_mem_cons.mpr ⟨lw_p41, List.forall_mem_cons.mpr ⟨lw_p42, List.forall_mem_cons.mpr ⟨lw_p43, List.forall_mem_cons.mpr ⟨lw_p44, List.forall_mem_cons.mpr ⟨lw_p45, List.forall_mem_cons.mpr ⟨lw_p46, List.forall_mem_cons.mpr ⟨lw_p47, fun _ h => absurd h List.not_mem_nil⟩⟩⟩⟩⟩⟩⟩⟩⟩⟩⟩⟩⟩⟩⟩⟩
theorem lw_p48 : lw_okq (⟨"TextEngine$Chooser", "moveOn", "()V"⟩, 3) := ⟨⟨by decide +kernel, by decide +kernel⟩, List.mem_of_getElem? (i := 181) (by decide +kernel), List.mem_of_getElem? (i := 829) (by decide +kernel), List.mem_of_getElem? (i := 830) (by decide +kernel)⟩
theorem lw_p49 : lw_okq (⟨"TextEngine", "sayOne", "()Z"⟩, 10) := ⟨⟨by decide +kernel, by decide +kernel⟩, List.mem_of_getElem? (i := 19) (by decide +kernel), List.mem_of_getElem? (i := 838) (by decide +kernel), List.mem_of_getElem? (i := 839) (by decide +kernel)⟩
theorem lw_p50 : lw_okq (⟨"TextEngineModel", "parse", "()V"⟩, 63) := ⟨⟨by decide +kernel, by decide +kernel⟩, List.mem_of_getElem? (i := 858) (by decide +kernel), List.mem_of_getElem? (i := 1074) (by decide +kernel), List.mem_of_getElem? (i := 1075) (by decide +kernel)⟩
theorem lw_p51 : lw_okq (⟨"TextEngineModel", "read", "(I)I"⟩, 63) := ⟨⟨by decide +kernel, by decide +kernel⟩, List.mem_of_getElem? (i := 858) (by decide +kernel), List.mem_of_getElem? (i := 1078) (by decide +kernel), List.mem_of_getElem? (i := 1079) (by decide +kernel)⟩
theorem lw_p52 : lw_okq (⟨"TextEngineModel", "bad", "(ZII)V"⟩, 63) := ⟨⟨by decide +kernel, by decide +kernel⟩, List.mem_of_getElem? (i := 858) (by decide +kernel), List.mem_of_getElem? (i := 1082) (by decide +kernel), List.mem_of_getElem? (i := 1083) (by decide +kernel)⟩
theorem lw_p53 : lw_okq (⟨"TextEngineModel", "u", "(II)I"⟩, 63) := ⟨⟨by decide +kernel, by decide +kernel⟩, List.mem_of_getElem? (i := 858) (by decide +kernel), List.mem_of_getElem? (i := 1086) (by decide +kernel), List.mem_of_getElem? (i := 1087) (by decide +kernel)⟩
theorem lw_p54 : lw_okq (⟨"TextEngineModel", "many", "(I)I"⟩, 63) := ⟨⟨by decide +kernel, by decide +kernel⟩, List.mem_of_getElem? (i := 858) (by decide +kernel), List.mem_of_getElem? (i := 1091) (by decide +kernel), List.mem_of_getElem? (i := 1092) (by decide +kernel)⟩
theorem lw_p55 : lw_okq (⟨"TextEngineModel", "string", "(Z)V"⟩, 63) := ⟨⟨by decide +kernel, by decide +kernel⟩, List.mem_of_getElem? (i := 858) (by decide +kernel), List.mem_of_getElem? (i := 1095) (by decide +kernel), List.mem_of_getElem? (i := 1096) (by decide +kernel)⟩
theorem lw_p56 : lw_okq (⟨"TextEngineModel", "alike", "(II)Z"⟩, 63) := ⟨⟨by decide +kernel, by decide +kernel⟩, List.mem_of_getElem? (i := 858) (by decide +kernel), List.mem_of_getElem? (i := 1099) (by decide +kernel), List.mem_of_getElem? (i := 1100) (by decide +kernel)⟩
theorem lw_p57 : lw_okq (⟨"TextEngineModel", "kind", "()I"⟩, 63) := ⟨⟨by decide +kernel, by decide +kernel⟩, List.mem_of_getElem? (i := 858) (by decide +kernel), List.mem_of_getElem? (i := 1103) (by decide +kernel), List.mem_of_getElem? (i := 1104) (by decide +kernel)⟩
theorem lw_p58 : lw_okq (⟨"TextEngineModel", "value", "(I)V"⟩, 63) := ⟨⟨by decide +kernel, by decide +kernel⟩, List.mem_of_getElem? (i := 858) (by decide +kernel), List.mem_of_getElem? (i := 1107) (by decide +kernel), List.mem_of_getElem? (i := 1108) (by decide +kernel)⟩
theorem lw_p59 : lw_okq (⟨"TextEngineModel", "plain", "(I)V"⟩, 63) := ⟨⟨by decide +kernel, by decide +kernel⟩, List.mem_of_getElem? (i := 858) (by decide +kernel), List.mem_of_getElem? (i := 1111) (by decide +kernel), List.mem_of_getElem? (i := 1112) (by decide +kernel)⟩
theorem lw_p60 : lw_okq (⟨"TextEngineModel", "info", "(I)V"⟩, 63) := ⟨⟨by decide +kernel, by decide +kernel⟩, List.mem_of_getElem? (i := 858) (by decide +kernel), List.mem_of_getElem? (i := 1115) (by decide +kernel), List.mem_of_getElem? (i := 1116) (by decide +kernel)⟩
theorem lw_p61 : lw_okq (⟨"TextEngineModel", "look", "()V"⟩, 63) := ⟨⟨by decide +kernel, by decide +kernel⟩, List.mem_of_getElem? (i := 858) (by decide +kernel), List.mem_of_getElem? (i := 1119) (by decide +kernel), List.mem_of_getElem? (i := 1120) (by decide +kernel)⟩
theorem lw_p62 : lw_okq (⟨"TextEngineModel", "key", "(JII)I"⟩, 63) := ⟨⟨by decide +kernel, by decide +kernel⟩, List.mem_of_getElem? (i := 858) (by decide +kernel), List.mem_of_getElem? (i := 1124) (by decide +kernel), List.mem_of_getElem? (i := 1125) (by decide +kernel)⟩
theorem lw_p63 : lw_okq (⟨"TextEngineModel", "is", "(IJI)Z"⟩, 63) := ⟨⟨by decide +kernel, by decide +kernel⟩, List.mem_of_getElem? (i := 858) (by decide +kernel), List.mem_of_getElem? (i := 1128) (by decide +kernel), List.mem_of_getElem? (i := 1129) (by decide +kernel)⟩
def lw_privs_4 : List (MethodName × Nat) := [(⟨"TextEngine$Chooser", "moveOn", "()V"⟩, 3), (⟨"TextEngine", "sayOne", "()Z"⟩, 10), (⟨"TextEngineModel", "parse", "()V"⟩, 63), (⟨"TextEngineModel", "read", "(I)I"⟩, 63), (⟨"TextEngineModel", "bad", "(ZII)V"⟩, 63), (⟨"TextEngineModel", "u", "(II)I"⟩, 63), (⟨"TextEngineModel", "many", "(I)I"⟩, 63), (⟨"TextEngineModel", "string", "(Z)V"⟩, 63), (⟨"TextEngineModel", "alike", "(II)Z"⟩, 63), (⟨"TextEngineModel", "kind", "()I"⟩, 63), (⟨"TextEngineModel", "value", "(I)V"⟩, 63), (⟨"TextEngineModel", "plain", "(I)V"⟩, 63), (⟨"TextEngineModel", "info", "(I)V"⟩, 63), (⟨"TextEngineModel", "look", "()V"⟩, 63), (⟨"TextEngineModel", "key", "(JII)I"⟩, 63), (⟨"TextEngineModel", "is", "(IJI)Z"⟩, 63)]
theorem lw_r4 : ∀ q ∈ lw_privs_4, lw_okq q := List.forall_mem_cons.mpr ⟨lw_p48, List.forall_mem_cons.mpr ⟨lw_p49, List.forall_mem_cons.mpr ⟨lw_p50, List.forall_mem_cons.mpr ⟨lw_p51, List.forall_mem_cons.mpr ⟨lw_p52, List.forall_mem_cons.mpr ⟨lw_p53, List.forall_mem_cons.mpr ⟨lw_p54, List.forall_mem_cons.mpr ⟨lw_p55, List.forall_mem_cons.mpr ⟨lw_p56, List.forall_mem_cons.mpr ⟨lw_p57, List.forall_mem_cons.mpr ⟨lw_p58, List.forall_mem_cons.mpr ⟨lw_p59, List.forall_mem_cons.mpr ⟨lw_p60, List.forall_mem_cons.mpr ⟨lw_p61, List.forall_mem_cons.mpr ⟨lw_p62, List.forall_mem_cons.mpr ⟨lw_p63, fun _ h => absurd h List.not_mem_nil⟩⟩⟩⟩⟩⟩⟩⟩⟩⟩⟩⟩⟩⟩⟩⟩
theorem lw_p64 : lw_okq (⟨"TextEngineModel", "typesFit", "(II)Z"⟩, 63) := ⟨⟨by decide +kernel, by decide +kernel⟩, List.mem_of_getElem? (i := 858) (by decide +kernel), List.mem_of_getElem? (i := 1142) (by decide +kernel), List.mem_of_getElem? (i := 1143) (by decide +kernel)⟩
theorem lw_p65 : lw_okq (⟨"TextEngineModel", "half", "(I)J"⟩, 63) := ⟨⟨by decide +kernel, by decide +kernel⟩, List.mem_of_getElem? (i := 858) (by decide +kernel), List.mem_of_getElem? (i := 1146) (by decide +kernel), List.mem_of_getElem? (i := 1147) (by decide +kernel)⟩
theorem lw_p66 : lw_okq (⟨"TextEngineModel", "texts", "(I)Z"⟩, 63) := ⟨⟨by decide +kernel, by decide +kernel⟩, List.mem_of_getElem? (i := 858) (by decide +kernel), List.mem_of_getElem? (i := 1154) (by decide +kernel), List.mem_of_getElem? (i := 1155) (by decide +kernel)⟩
theorem lw_p67 : lw_okq (⟨"TextEngineModel", "pairsOf", "(I)Z"⟩, 63) := ⟨⟨by decide +kernel, by decide +kernel⟩, List.mem_of_getElem? (i := 858) (by decide +kernel), List.mem_of_getElem? (i := 1158) (by decide +kernel), List.mem_of_getElem? (i := 1159) (by decide +kernel)⟩
theorem lw_p68 : lw_okq (⟨"TextEngineModel", "together", "(II)I"⟩, 63) := ⟨⟨by decide +kernel, by decide +kernel⟩, List.mem_of_getElem? (i := 858) (by decide +kernel), List.mem_of_getElem? (i := 1162) (by decide +kernel), List.mem_of_getElem? (i := 1163) (by decide +kernel)⟩
theorem lw_p69 : lw_okq (⟨"TextEngineModel", "align", "()V"⟩, 63) := ⟨⟨by decide +kernel, by decide +kernel⟩, List.mem_of_getElem? (i := 858) (by decide +kernel), List.mem_of_getElem? (i := 1166) (by decide +kernel), List.mem_of_getElem? (i := 1167) (by decide +kernel)⟩
theorem lw_p70 : lw_okq (⟨"TextEngineModel", "shapes", "()V"⟩, 63) := ⟨⟨by decide +kernel, by decide +kernel⟩, List.mem_of_getElem? (i := 858) (by decide +kernel), List.mem_of_getElem? (i := 1171) (by decide +kernel), List.mem_of_getElem? (i := 1172) (by decide +kernel)⟩
theorem lw_p71 : lw_okq (⟨"TextEngineModel", "need", "(IJIII)V"⟩, 63) := ⟨⟨by decide +kernel, by decide +kernel⟩, List.mem_of_getElem? (i := 858) (by decide +kernel), List.mem_of_getElem? (i := 1176) (by decide +kernel), List.mem_of_getElem? (i := 1177) (by decide +kernel)⟩
theorem lw_p72 : lw_okq (⟨"TextEngineModel", "places", "()V"⟩, 63) := ⟨⟨by decide +kernel, by decide +kernel⟩, List.mem_of_getElem? (i := 858) (by decide +kernel), List.mem_of_getElem? (i := 1192) (by decide +kernel), List.mem_of_getElem? (i := 1193) (by decide +kernel)⟩
theorem lw_p73 : lw_okq (⟨"TextEngineModel", "octets", "(I)I"⟩, 63) := ⟨⟨by decide +kernel, by decide +kernel⟩, List.mem_of_getElem? (i := 858) (by decide +kernel), List.mem_of_getElem? (i := 1196) (by decide +kernel), List.mem_of_getElem? (i := 1197) (by decide +kernel)⟩
theorem lw_p74 : lw_okq (⟨"TextEngineModel", "take", "()V"⟩, 63) := ⟨⟨by decide +kernel, by decide +kernel⟩, List.mem_of_getElem? (i := 858) (by decide +kernel), List.mem_of_getElem? (i := 1200) (by decide +kernel), List.mem_of_getElem? (i := 1201) (by decide +kernel)⟩
theorem lw_p75 : lw_okq (⟨"TextEngineModel", "weigh", "(II)F"⟩, 63) := ⟨⟨by decide +kernel, by decide +kernel⟩, List.mem_of_getElem? (i := 858) (by decide +kernel), List.mem_of_getElem? (i := 1204) (by decide +kernel), List.mem_of_getElem? (i := 1205) (by decide +kernel)⟩
theorem lw_p76 : lw_okq (⟨"TextEngineModel", "layer", "(I)V"⟩, 63) := ⟨⟨by decide +kernel, by decide +kernel⟩, List.mem_of_getElem? (i := 858) (by decide +kernel), List.mem_of_getElem? (i := 1245) (by decide +kernel), List.mem_of_getElem? (i := 1246) (by decide +kernel)⟩
theorem lw_p77 : lw_okq (⟨"TextEngineModel", "norm", "(I)V"⟩, 63) := ⟨⟨by decide +kernel, by decide +kernel⟩, List.mem_of_getElem? (i := 858) (by decide +kernel), List.mem_of_getElem? (i := 1249) (by decide +kernel), List.mem_of_getElem? (i := 1250) (by decide +kernel)⟩
theorem lw_p78 : lw_okq (⟨"TextEngineModel", "dot", "(II[F)F"⟩, 63) := ⟨⟨by decide +kernel, by decide +kernel⟩, List.mem_of_getElem? (i := 858) (by decide +kernel), List.mem_of_getElem? (i := 1256) (by decide +kernel), List.mem_of_getElem? (i := 1257) (by decide +kernel)⟩
theorem lw_p79 : lw_okq (⟨"TextEngineModel", "turnAll", "([FI)V"⟩, 63) := ⟨⟨by decide +kernel, by decide +kernel⟩, List.mem_of_getElem? (i := 858) (by decide +kernel), List.mem_of_getElem? (i := 1260) (by decide +kernel), List.mem_of_getElem? (i := 1261) (by decide +kernel)⟩
def lw_privs_5 : List (MethodName × Nat) := [(⟨"TextEngineModel", "typesFit", "(II)Z"⟩, 63), (⟨"TextEngineModel", "half", "(I)J"⟩, 63), (⟨"TextEngineModel", "texts", "(I)Z"⟩, 63), (⟨"TextEngineModel", "pairsOf", "(I)Z"⟩, 63), (⟨"TextEngineModel", "together", "(II)I"⟩, 63), (⟨"TextEngineModel", "align", "()V"⟩, 63), (⟨"TextEngineModel", "shapes", "()V"⟩, 63), (⟨"TextEngineModel", "need", "(IJIII)V"⟩, 63), (⟨"TextEngineModel", "places", "()V"⟩, 63), (⟨"TextEngineModel", "octets", "(I)I"⟩, 63), (⟨"TextEngineModel", "take", "()V"⟩, 63), (⟨"TextEngineModel", "weigh", "(II)F"⟩, 63), (⟨"TextEngineModel", "layer", "(I)V"⟩, 63), (⟨"TextEngineModel", "norm", "(I)V"⟩, 63), (⟨"TextEngineModel", "dot", "(II[F)F"⟩, 63), (⟨"TextEngineModel", "turnAll", "([FI)V"⟩, 63)]
theorem lw_r5 : ∀ q ∈ lw_privs_5, lw_okq q := List.forall_mem_cons.mpr ⟨lw_p64, List.forall_mem_cons.mpr ⟨lw_p65, List.forall_mem_cons.mpr ⟨lw_p66, List.forall_mem_cons.mpr ⟨lw_p67, List.forall_mem_cons.mpr ⟨lw_p68, List.forall_mem_cons.mpr ⟨lw_p69, List.forall_mem_cons.mpr ⟨lw_p70, List.forall_mem_cons.mpr ⟨lw_p71, List.forall_mem_cons.mpr ⟨lw_p72, List.forall_mem_cons.mpr ⟨lw_p73, List.forall_mem_cons.mpr ⟨lw_p74, List.forall_mem_cons.mpr ⟨lw_p75, List.forall_mem_cons.mpr ⟨lw_p76, List.forall_mem_cons.mpr ⟨lw_p77, List.forall_mem_cons.mpr ⟨lw_p78, List.forall_mem_cons.mpr ⟨lw_p79, fun _ h => absurd h List.not_mem_nil⟩⟩⟩⟩⟩⟩⟩⟩⟩⟩⟩⟩⟩⟩⟩⟩
theorem lw_p80 : lw_okq (⟨"TextEngineModel", "attend", "(I)V"⟩, 63) := ⟨⟨by decide +kernel, by decide +kernel⟩, List.mem_of_getElem? (i := 858) (by decide +kernel), List.mem_of_getElem? (i := 1265) (by decide +kernel), List.mem_of_getElem? (i := 1266) (by decide +kernel)⟩
theorem lw_p81 : lw_okq (⟨"TextEngineModel", "sort", "()V"⟩, 63) := ⟨⟨by decide +kernel, by decide +kernel⟩, List.mem_of_getElem? (i := 858) (by decide +kernel), List.mem_of_getElem? (i := 1288) (by decide +kernel), List.mem_of_getElem? (i := 1289) (by decide +kernel)⟩
def lw_privs_6 : List (MethodName × Nat) := [(⟨"TextEngineModel", "attend", "(I)V"⟩, 63), (⟨"TextEngineModel", "sort", "()V"⟩, 63)]
theorem lw_r6 : ∀ q ∈ lw_privs_6, lw_okq q := List.forall_mem_cons.mpr ⟨lw_p80, List.forall_mem_cons.mpr ⟨lw_p81, fun _ h => absurd h List.not_mem_nil⟩⟩
def lw_privs : List (MethodName × Nat) := lw_privs_1 ++ (lw_privs_2 ++ (lw_privs_3 ++ (lw_privs_4 ++ (lw_privs_5 ++ (lw_privs_6)))))
def lw_tbl : List Cond := k2_sels lw_privs ++ tables_1
theorem lw_privs_ok : ∀ q ∈ lw_privs, lw_okq q := by
  show ∀ q ∈ lw_privs_1 ++ (lw_privs_2 ++ (lw_privs_3 ++ (lw_privs_4 ++ (lw_privs_5 ++ (lw_privs_6))))), lw_okq q
  exact List.forall_mem_append.mpr ⟨lw_r1, List.forall_mem_append.mpr ⟨lw_r2, List.forall_mem_append.mpr ⟨lw_r3, List.forall_mem_append.mpr ⟨lw_r4, List.forall_mem_append.mpr ⟨lw_r5, lw_r6⟩⟩⟩⟩⟩
end
section
/-! A MACHINE ON PAPER: an interpreter of the bytecode over cells that are numbered in the order of their making. -/
/-- the shape of a cell: an array (type of its entries, length, what it refers to), or an object (number of its class, what its fields refer to) -/
abbrev xS : Type := (FieldType × Nat × List (Option Nat)) ⊕ (Nat × List (Option Nat))
/-- the numbers in the cells: by cell and place -/
abbrev xD : Type := (Nat → Nat → Int32) × (Nat → Nat → Int64) × (Nat → Nat → UInt32)
abbrev xH : Type := List xS × xD
abbrev xL : Type := List (Option Value)
/-- a frame: pc, locals, stack, heap -/
abbrev xF : Type := Nat × xL × List Value × xH
/-- an instruction as the tables have it: the instruction, the next pc, its numbers (targets, class and field, method ..), its constant -/
abbrev xN : Type := Instr × Nat × List Nat × Value
/-- a method: name, bytes, locals, type of the answer, class, its instructions by pc -/
abbrev xM : Type := MethodName × ByteArray × Nat × Option FieldType × String × (Nat → Option xN)
/-- all methods by number, all classes' field types by number, length and letter of the text constants -/
abbrev xE : Type := (Nat → xM) × (Nat → List FieldType) × (Nat → Nat) × (Nat → Nat → Int32)
/-- what an instruction does: go on; go on where a condition holds; choose; call; end -/
abbrev xO : Type := xF ⊕ (Prop × xF) ⊕ (List (Prop × xF) × xF) ⊕ (Nat × List Value × Nat × xL × List Value × xH) ⊕ (Prop × Option Value × xH)
abbrev xP : Type := Option Value → xH → Prop
def xt0 : Nat := 1000000
def x2 {α : Type} (f : Nat → Nat → α) (a k : Nat) (x : α) : Nat → Nat → α := fun b j => bif Nat.beq b a && Nat.beq j k then x else f b j
def x0 {α : Type} (f : Nat → Nat → α) (a : Nat) (z : α) : Nat → Nat → α := fun b j => bif Nat.beq b a then z else f b j
def xrv : Option (Option Nat) → Value
  | some (some q) => .ref q
  | _ => .null
def xget (ty : FieldType) (k a : Nat) (rf : List (Option Nat)) (d : xD) : Value := match ty with
  | .long => .long (d.2.1 a k)
  | .float => .float (d.2.2 a k)
  | .double => .retAddr 0
  | .object _ => xrv rf[k]?
  | .array _ => xrv rf[k]?
  | _ => .int (d.1 a k)
def xno (f : xF) : xO := .inr (.inl (False, f))
def xld (ls : xL) (i : Nat) : Option Value := match ls[i]? with
  | some o => o
  | none => none
/-- a store into a local: what was there before goes, the second half of a long too -/
def xkill (ls : xL) (i : Nat) : xL := match i with
  | 0 => ls
  | j + 1 => match xld ls j with
    | some w => bif Nat.beq w.category 2 then ls.set j none else ls
    | none => ls
def xput (ls : xL) (i : Nat) (v : Value) : Option xL := match ls[i]? with
  | none => none
  | some _ => some ((xkill ls i).set i (some v))
def xput2 (ls : xL) (i : Nat) (v : Value) : Option xL := match ls[i + 1]? with
  | none => none
  | some _ => some (((xkill ls i).set i (some v)).set (i + 1) none)
def xpop : Nat → List Value → List Value → Option (List Value × List Value)
  | 0, st, acc => some (acc, st)
  | _ + 1, [], _ => none
  | n + 1, v :: st, acc => xpop n st (v :: acc)
def xflat : List Value → xL
  | [] => []
  | v :: vs => bif Nat.beq v.category 2 then some v :: none :: xflat vs else some v :: xflat vs
def xpad : Nat → xL → xL
  | 0, l => l
  | n + 1, [] => none :: xpad n []
  | n + 1, v :: l => v :: xpad n l
def xent (M : xM) (av : List Value) : xL := xpad M.2.2.1 (xflat av)
def xcat (st : List Value) : Nat := (st.map fun v => v.category).sum
/-- integers -/
def xii (g : Int32 → Int32 → Int32) (nx : Nat) (ls : xL) (st : List Value) (h : xH) : xO := match st with
  | .int y :: .int x :: r => .inl (nx, ls, .int (g x y) :: r, h)
  | _ => xno (nx, ls, st, h)
def xi (g : Int32 → Value) (nx : Nat) (ls : xL) (st : List Value) (h : xH) : xO := match st with
  | .int x :: r => .inl (nx, ls, g x :: r, h)
  | _ => xno (nx, ls, st, h)
def xiiD (g : Int32 → Int32 → Int32) (nx : Nat) (ls : xL) (st : List Value) (h : xH) : xO := match st with
  | .int y :: .int x :: r => .inr (.inl (¬ y = 0, nx, ls, .int (g x y) :: r, h))
  | _ => xno (nx, ls, st, h)
def xll (g : Int64 → Int64 → Value) (nx : Nat) (ls : xL) (st : List Value) (h : xH) : xO := match st with
  | .long y :: .long x :: r => .inl (nx, ls, g x y :: r, h)
  | _ => xno (nx, ls, st, h)
def xl (g : Int64 → Value) (nx : Nat) (ls : xL) (st : List Value) (h : xH) : xO := match st with
  | .long x :: r => .inl (nx, ls, g x :: r, h)
  | _ => xno (nx, ls, st, h)
def xli (g : Int64 → Int32 → Int64) (nx : Nat) (ls : xL) (st : List Value) (h : xH) : xO := match st with
  | .int y :: .long x :: r => .inl (nx, ls, .long (g x y) :: r, h)
  | _ => xno (nx, ls, st, h)
/-- floats: no answer may be NaN -/
def xff (g : UInt32 → UInt32 → UInt32) (nx : Nat) (ls : xL) (st : List Value) (h : xH) : xO := match st with
  | .float y :: .float x :: r => .inr (.inl (vf_n32 (g x y), nx, ls, .float (g x y) :: r, h))
  | _ => xno (nx, ls, st, h)
def xf (g : UInt32 → Value) (nx : Nat) (ls : xL) (st : List Value) (h : xH) : xO := match st with
  | .float x :: r => .inl (nx, ls, g x :: r, h)
  | _ => xno (nx, ls, st, h)
def xfc (op : CmpOp) (nx : Nat) (ls : xL) (st : List Value) (h : xH) : xO := match st with
  | .float y :: .float x :: r => .inl (nx, ls, .int (Op.cmpValue (FP.fcmp x y) op) :: r, h)
  | _ => xno (nx, ls, st, h)
/-- loads and stores of locals -/
def xloi (i nx : Nat) (ls : xL) (st : List Value) (h : xH) : xO := match xld ls i with
  | some (.int x) => .inl (nx, ls, .int x :: st, h)
  | _ => xno (nx, ls, st, h)
def xlol (i nx : Nat) (ls : xL) (st : List Value) (h : xH) : xO := match xld ls i with
  | some (.long x) => .inl (nx, ls, .long x :: st, h)
  | _ => xno (nx, ls, st, h)
def xlof (i nx : Nat) (ls : xL) (st : List Value) (h : xH) : xO := match xld ls i with
  | some (.float x) => .inl (nx, ls, .float x :: st, h)
  | _ => xno (nx, ls, st, h)
def xloa (i nx : Nat) (ls : xL) (st : List Value) (h : xH) : xO := match xld ls i with
  | some (.ref x) => .inl (nx, ls, .ref x :: st, h)
  | some .null => .inl (nx, ls, .null :: st, h)
  | _ => xno (nx, ls, st, h)
def xsti (i nx : Nat) (ls : xL) (st : List Value) (h : xH) : xO := match st with
  | .int x :: r => (match xput ls i (.int x) with
    | some ls' => .inl (nx, ls', r, h)
    | none => xno (nx, ls, st, h))
  | _ => xno (nx, ls, st, h)
def xstf (i nx : Nat) (ls : xL) (st : List Value) (h : xH) : xO := match st with
  | .float x :: r => (match xput ls i (.float x) with
    | some ls' => .inl (nx, ls', r, h)
    | none => xno (nx, ls, st, h))
  | _ => xno (nx, ls, st, h)
def xsta (i nx : Nat) (ls : xL) (st : List Value) (h : xH) : xO := match st with
  | .ref x :: r => (match xput ls i (.ref x) with
    | some ls' => .inl (nx, ls', r, h)
    | none => xno (nx, ls, st, h))
  | .null :: r => (match xput ls i .null with
    | some ls' => .inl (nx, ls', r, h)
    | none => xno (nx, ls, st, h))
  | _ => xno (nx, ls, st, h)
def xstl (i nx : Nat) (ls : xL) (st : List Value) (h : xH) : xO := match st with
  | .long x :: r => (match xput2 ls i (.long x) with
    | some ls' => .inl (nx, ls', r, h)
    | none => xno (nx, ls, st, h))
  | _ => xno (nx, ls, st, h)
def xinc (i : Nat) (v : Value) (nx : Nat) (ls : xL) (st : List Value) (h : xH) : xO := match xld ls i, v with
  | some (.int x), .int k => (match xput ls i (.int (x + k)) with
    | some ls' => .inl (nx, ls', st, h)
    | none => xno (nx, ls, st, h))
  | _, _ => xno (nx, ls, st, h)
/-- branches -/
def xb1t (g : Int32 → Prop) (nx t : Nat) (ls : xL) (st : List Value) (h : xH) : xO := match st with
  | .int x :: r => .inr (.inr (.inl ([(g x, t, ls, r, h)], nx, ls, r, h)))
  | _ => xno (nx, ls, st, h)
def xb1 (g : Int32 → Prop) (nx : Nat) (tg : List Nat) (ls : xL) (st : List Value) (h : xH) : xO := match tg with
  | [t] => xb1t g nx t ls st h
  | _ => xno (nx, ls, st, h)
def xb2t (g : Int32 → Int32 → Prop) (nx t : Nat) (ls : xL) (st : List Value) (h : xH) : xO := match st with
  | .int y :: .int x :: r => .inr (.inr (.inl ([(g x y, t, ls, r, h)], nx, ls, r, h)))
  | _ => xno (nx, ls, st, h)
def xb2 (g : Int32 → Int32 → Prop) (nx : Nat) (tg : List Nat) (ls : xL) (st : List Value) (h : xH) : xO := match tg with
  | [t] => xb2t g nx t ls st h
  | _ => xno (nx, ls, st, h)
def xnul (a b : Nat) (ls : xL) (st : List Value) (h : xH) : xO := match st with
  | .null :: r => .inl (a, ls, r, h)
  | .ref _ :: r => .inl (b, ls, r, h)
  | _ => xno (0, ls, st, h)
def xsw (ls : xL) (r : List Value) (h : xH) (x : Int32) : Int → List Nat → List (Prop × xF)
  | _, [] => []
  | k, t :: ts => (x.toInt = k, t, ls, r, h) :: xsw ls r h x (k + 1) ts
/-- fields -/
def xgft (E : xE) (nx ci k : Nat) (ls : xL) (st : List Value) (h : xH) : xO := match st with
  | .ref a :: r => (match h.1[a]?, (E.2.1 ci)[k]? with
    | some (.inr (c2, rf)), some ty => (bif Nat.beq c2 ci then .inl (nx, ls, xget ty k a rf h.2 :: r, h) else xno (nx, ls, st, h))
    | _, _ => xno (nx, ls, st, h))
  | _ => xno (nx, ls, st, h)
def xgf (E : xE) (nx : Nat) (tg : List Nat) (ls : xL) (st : List Value) (h : xH) : xO := match tg with
  | [ci, k] => xgft E nx ci k ls st h
  | _ => xno (nx, ls, st, h)
def xwr (nx : Nat) (ls : xL) (r st : List Value) (h : xH) (a ci k : Nat) (rf : List (Option Nat)) (ty : FieldType) (v : Value) : xO := match ty, v with
  | .int, .int x => .inl (nx, ls, r, h.1, x2 h.2.1 a k x, h.2.2)
  | .boolean, .int x => .inr (.inl (x = 0 ∨ x = 1, nx, ls, r, h.1, x2 h.2.1 a k x, h.2.2))
  | .long, .long x => .inl (nx, ls, r, h.1, h.2.1, x2 h.2.2.1 a k x, h.2.2.2)
  | .float, .float x => .inl (nx, ls, r, h.1, h.2.1, h.2.2.1, x2 h.2.2.2 a k x)
  | .object _, .ref q => .inl (nx, ls, r, h.1.set a (.inr (ci, rf.set k (some q))), h.2)
  | .array _, .ref q => .inl (nx, ls, r, h.1.set a (.inr (ci, rf.set k (some q))), h.2)
  | .object _, .null => .inl (nx, ls, r, h.1.set a (.inr (ci, rf.set k none)), h.2)
  | .array _, .null => .inl (nx, ls, r, h.1.set a (.inr (ci, rf.set k none)), h.2)
  | _, _ => xno (nx, ls, st, h)
def xpft (E : xE) (nx ci k : Nat) (ls : xL) (st : List Value) (h : xH) : xO := match st with
  | v :: .ref a :: r => (match h.1[a]?, (E.2.1 ci)[k]? with
    | some (.inr (c2, rf)), some ty => (bif Nat.beq c2 ci then xwr nx ls r st h a ci k rf ty v else xno (nx, ls, st, h))
    | _, _ => xno (nx, ls, st, h))
  | _ => xno (nx, ls, st, h)
def xpf (E : xE) (nx : Nat) (tg : List Nat) (ls : xL) (st : List Value) (h : xH) : xO := match tg with
  | [ci, k] => xpft E nx ci k ls st h
  | _ => xno (nx, ls, st, h)
/-- arrays -/
def xaldI (nx : Nat) (ls : xL) (st : List Value) (h : xH) : xO := match st with
  | .int i :: .ref a :: r => (match h.1[a]? with
    | some (.inl (.int, n, _)) => .inr (.inl (vp_in i n, nx, ls, .int (h.2.1 a i.toNatClampNeg) :: r, h))
    | _ => xno (nx, ls, st, h))
  | _ => xno (nx, ls, st, h)
def xaldB (nx : Nat) (ls : xL) (st : List Value) (h : xH) : xO := match st with
  | .int i :: .ref a :: r => (match h.1[a]? with
    | some (.inl (.byte, n, _)) => .inr (.inl (vp_in i n, nx, ls, .int (h.2.1 a i.toNatClampNeg) :: r, h))
    | _ => xno (nx, ls, st, h))
  | _ => xno (nx, ls, st, h)
def xaldL (nx : Nat) (ls : xL) (st : List Value) (h : xH) : xO := match st with
  | .int i :: .ref a :: r => (match h.1[a]? with
    | some (.inl (.long, n, _)) => .inr (.inl (vp_in i n, nx, ls, .long (h.2.2.1 a i.toNatClampNeg) :: r, h))
    | _ => xno (nx, ls, st, h))
  | _ => xno (nx, ls, st, h)
def xaldF (nx : Nat) (ls : xL) (st : List Value) (h : xH) : xO := match st with
  | .int i :: .ref a :: r => (match h.1[a]? with
    | some (.inl (.float, n, _)) => .inr (.inl (vp_in i n, nx, ls, .float (h.2.2.2 a i.toNatClampNeg) :: r, h))
    | _ => xno (nx, ls, st, h))
  | _ => xno (nx, ls, st, h)
def xaldA (nx : Nat) (ls : xL) (st : List Value) (h : xH) : xO := match st with
  | .int i :: .ref a :: r => (match h.1[a]? with
    | some (.inl (.array .float, n, rs)) => .inr (.inl (vp_in i n, nx, ls, xrv rs[i.toNatClampNeg]? :: r, h))
    | _ => xno (nx, ls, st, h))
  | _ => xno (nx, ls, st, h)
def xastI (nx : Nat) (ls : xL) (st : List Value) (h : xH) : xO := match st with
  | .int x :: .int i :: .ref a :: r => (match h.1[a]? with
    | some (.inl (.int, n, _)) => .inr (.inl (vp_in i n, nx, ls, r, h.1, x2 h.2.1 a i.toNatClampNeg x, h.2.2))
    | _ => xno (nx, ls, st, h))
  | _ => xno (nx, ls, st, h)
def xastB (nx : Nat) (ls : xL) (st : List Value) (h : xH) : xO := match st with
  | .int x :: .int i :: .ref a :: r => (match h.1[a]? with
    | some (.inl (.byte, n, _)) => .inr (.inl (vp_in i n, nx, ls, r, h.1, x2 h.2.1 a i.toNatClampNeg x.toInt8.toInt32, h.2.2))
    | _ => xno (nx, ls, st, h))
  | _ => xno (nx, ls, st, h)
def xastL (nx : Nat) (ls : xL) (st : List Value) (h : xH) : xO := match st with
  | .long x :: .int i :: .ref a :: r => (match h.1[a]? with
    | some (.inl (.long, n, _)) => .inr (.inl (vp_in i n, nx, ls, r, h.1, h.2.1, x2 h.2.2.1 a i.toNatClampNeg x, h.2.2.2))
    | _ => xno (nx, ls, st, h))
  | _ => xno (nx, ls, st, h)
def xastF (nx : Nat) (ls : xL) (st : List Value) (h : xH) : xO := match st with
  | .float x :: .int i :: .ref a :: r => (match h.1[a]? with
    | some (.inl (.float, n, _)) => .inr (.inl (vp_in i n, nx, ls, r, h.1, h.2.1, h.2.2.1, x2 h.2.2.2 a i.toNatClampNeg x))
    | _ => xno (nx, ls, st, h))
  | _ => xno (nx, ls, st, h)
def xaln (nx : Nat) (ls : xL) (st : List Value) (h : xH) : xO := match st with
  | .ref a :: r => (match h.1[a]? with
    | some (.inl (_, n, _)) => .inl (nx, ls, .int (Int32.ofNat n) :: r, h)
    | _ => xno (nx, ls, st, h))
  | _ => xno (nx, ls, st, h)
def xclr (d : xD) (q : Nat) : xD := (x0 d.1 q 0, x0 d.2.1 q 0, x0 d.2.2 q 0)
def xnew (E : xE) (nx : Nat) (tg : List Nat) (ls : xL) (st : List Value) (h : xH) : xO := match tg with
  | [ci] => .inl (nx, ls, .ref h.1.length :: st, h.1 ++ [.inr (ci, (E.2.1 ci).map fun _ => none)], xclr h.2 h.1.length)
  | _ => xno (nx, ls, st, h)
def xoka : FieldType → Bool
  | .int => true | .byte => true | .long => true | .float => true
  | _ => false
def xnar (ty : FieldType) (nx : Nat) (ls : xL) (st : List Value) (h : xH) : xO := match st with
  | .int n :: r => (bif xoka ty then .inr (.inl (¬ n < 0 ∧ n.toNatClampNeg ≤ 1000000, nx, ls, .ref h.1.length :: r, h.1 ++ [.inl (ty, n.toNatClampNeg, [])], xclr h.2 h.1.length)) else xno (nx, ls, st, h))
  | _ => xno (nx, ls, st, h)
def xty : ArrayType → FieldType
  | .boolean => .boolean | .char => .char | .float => .float | .double => .double | .byte => .byte | .short => .short | .int => .int | .long => .long
/-- new T[2][n] -/
def xmul (nx : Nat) (ls : xL) (st : List Value) (h : xH) : xO := match st with
  | .int n :: .int k :: r => .inr (.inl (k = 2 ∧ ¬ n < 0 ∧ n.toNatClampNeg ≤ 1000000, nx, ls, .ref h.1.length :: r, h.1 ++ [.inl (.array .float, 2, [some (h.1.length + 1), some (h.1.length + 2)]), .inl (.float, n.toNatClampNeg, []), .inl (.float, n.toNatClampNeg, [])], xclr (xclr (xclr h.2 h.1.length) (h.1.length + 1)) (h.1.length + 2)))
  | _ => xno (nx, ls, st, h)
/-- calls: [method, parameters] static; [method, parameters, class] of an object; [] of an object: Object(); [0], [1]: length and charAt of a text; [2], [3]: max and min -/
def xcl (E : xE) (nx : Nat) (ls : xL) (st : List Value) (h : xH) (y n : Nat) : xO := match xpop n st [] with
  | some (av, r) => (bif Nat.ble (xcat r) 8 && Nat.ble (xflat av).length (E.1 y).2.2.1 then .inr (.inr (.inr (.inl (y, av, nx, ls, r, h)))) else xno (nx, ls, st, h))
  | none => xno (nx, ls, st, h)
def xis (E : xE) (ci : Nat) (av : List Value) (h : xH) : Bool := match av with
  | .ref b :: _ => (match h.1[b]? with
    | some (.inr (c2, _)) => Nat.beq c2 ci
    | _ => false)
  | _ => false
def xclv (E : xE) (nx : Nat) (ls : xL) (st : List Value) (h : xH) (y n ci : Nat) : xO := match xpop (n + 1) st [] with
  | some (av, r) => (bif Nat.ble (xcat r) 8 && Nat.ble (xflat av).length (E.1 y).2.2.1 && xis E ci av h then .inr (.inr (.inr (.inl (y, av, nx, ls, r, h)))) else xno (nx, ls, st, h))
  | none => xno (nx, ls, st, h)
def xmax (nx : Nat) (ls : xL) (st : List Value) (h : xH) : xO := match st with
  | .int y :: .int x :: r => (bif Nat.ble (xcat r) 8 then .inl (nx, ls, .int (if x < y then y else x) :: r, h) else xno (nx, ls, st, h))
  | _ => xno (nx, ls, st, h)
def xmin (nx : Nat) (ls : xL) (st : List Value) (h : xH) : xO := match st with
  | .int y :: .int x :: r => (bif Nat.ble (xcat r) 8 then .inl (nx, ls, .int (if y < x then y else x) :: r, h) else xno (nx, ls, st, h))
  | _ => xno (nx, ls, st, h)
def xivs (E : xE) (nx : Nat) (tg : List Nat) (ls : xL) (st : List Value) (h : xH) : xO := match tg with
  | [y, n] => xcl E nx ls st h y n
  | [2] => xmax nx ls st h
  | [3] => xmin nx ls st h
  | _ => xno (nx, ls, st, h)
def xtl (E : xE) (nx : Nat) (ls : xL) (st : List Value) (h : xH) : xO := match st with
  | .ref a :: r => (bif Nat.ble xt0 a && Nat.ble (xcat r) 8 && Nat.ble 1 (E.2.2.1 (a - xt0)) then .inl (nx, ls, .int (nI (E.2.2.1 (a - xt0))) :: r, h) else xno (nx, ls, st, h))
  | _ => xno (nx, ls, st, h)
def xtc (E : xE) (nx : Nat) (ls : xL) (st : List Value) (h : xH) : xO := match st with
  | .int i :: .ref a :: r => (bif Nat.ble xt0 a && Nat.ble (xcat r) 8 then .inr (.inl (vp_in i (E.2.2.1 (a - xt0)), nx, ls, .int (E.2.2.2 (a - xt0) i.toNatClampNeg) :: r, h)) else xno (nx, ls, st, h))
  | _ => xno (nx, ls, st, h)
def xivv (E : xE) (nx : Nat) (tg : List Nat) (ls : xL) (st : List Value) (h : xH) : xO := match tg with
  | [y, n, ci] => xclv E nx ls st h y n ci
  | [0] => xtl E nx ls st h
  | [1] => xtc E nx ls st h
  | _ => xno (nx, ls, st, h)
def xobj (nx : Nat) (ls : xL) (st : List Value) (h : xH) : xO := match st with
  | .ref _ :: r => (bif Nat.ble (xcat r) 8 then .inl (nx, ls, r, h) else xno (nx, ls, st, h))
  | _ => xno (nx, ls, st, h)
def xivi (E : xE) (nx : Nat) (tg : List Nat) (ls : xL) (st : List Value) (h : xH) : xO := match tg with
  | [y, n, ci] => xclv E nx ls st h y n ci
  | [] => xobj nx ls st h
  | _ => xno (nx, ls, st, h)
def xswt (lo : Int) (nx t : Nat) (ts : List Nat) (ls : xL) (st : List Value) (h : xH) : xO := match st with
  | .int x :: r => .inr (.inr (.inl (xsw ls r h x lo ts, t, ls, r, h)))
  | _ => xno (nx, ls, st, h)
/-- ends -/
def xrei (M : xM) (st : List Value) (h : xH) : xO := match M.2.2.2.1, st with
  | some .int, [.int v] => .inr (.inr (.inr (.inr (True, some (.int v), h))))
  | some .boolean, [.int v] => .inr (.inr (.inr (.inr (v &&& 1 = v, some (.int v), h))))
  | _, _ => xno (0, [], st, h)
def xrel (M : xM) (st : List Value) (h : xH) : xO := match M.2.2.2.1, st with
  | some .long, [.long v] => .inr (.inr (.inr (.inr (True, some (.long v), h))))
  | _, _ => xno (0, [], st, h)
def xref (M : xM) (st : List Value) (h : xH) : xO := match M.2.2.2.1, st with
  | some .float, [.float v] => .inr (.inr (.inr (.inr (True, some (.float v), h))))
  | _, _ => xno (0, [], st, h)
def xrea (M : xM) (st : List Value) (h : xH) : xO := match M.2.2.2.1, st with
  | some (.object _), [.ref v] => .inr (.inr (.inr (.inr (True, some (.ref v), h))))
  | some (.array _), [.ref v] => .inr (.inr (.inr (.inr (True, some (.ref v), h))))
  | some (.object _), [.null] => .inr (.inr (.inr (.inr (True, some .null, h))))
  | some (.array _), [.null] => .inr (.inr (.inr (.inr (True, some .null, h))))
  | _, _ => xno (0, [], st, h)
def xrev (M : xM) (st : List Value) (h : xH) : xO := match M.2.2.2.1, st with
  | none, [] => .inr (.inr (.inr (.inr (True, none, h))))
  | _, _ => xno (0, [], st, h)
/-- the stack -/
def xdup (nx : Nat) (ls : xL) (st : List Value) (h : xH) : xO := match st with
  | v :: r => (bif Nat.beq v.category 1 then .inl (nx, ls, v :: v :: r, h) else xno (nx, ls, st, h))
  | _ => xno (nx, ls, st, h)
def xpo (nx : Nat) (ls : xL) (st : List Value) (h : xH) : xO := match st with
  | v :: r => (bif Nat.beq v.category 1 then .inl (nx, ls, r, h) else xno (nx, ls, st, h))
  | _ => xno (nx, ls, st, h)
def xdx1 (nx : Nat) (ls : xL) (st : List Value) (h : xH) : xO := match st with
  | v :: w :: r => (bif Nat.beq v.category 1 && Nat.beq w.category 1 then .inl (nx, ls, v :: w :: v :: r, h) else xno (nx, ls, st, h))
  | _ => xno (nx, ls, st, h)
def xdx2 (nx : Nat) (ls : xL) (st : List Value) (h : xH) : xO := match st with
  | v :: w :: z :: r => (bif Nat.beq v.category 1 && Nat.beq w.category 1 && Nat.beq z.category 1 then .inl (nx, ls, v :: w :: z :: v :: r, h) else xno (nx, ls, st, h))
  | _ => xno (nx, ls, st, h)
def xd2 (nx : Nat) (ls : xL) (st : List Value) (h : xH) : xO := match st with
  | v :: w :: r => (bif Nat.beq v.category 1 && Nat.beq w.category 1 then .inl (nx, ls, v :: w :: v :: w :: r, h) else bif Nat.beq v.category 2 then .inl (nx, ls, v :: v :: w :: r, h) else xno (nx, ls, st, h))
  | [v] => (bif Nat.beq v.category 2 then .inl (nx, ls, [v, v], h) else xno (nx, ls, st, h))
  | _ => xno (nx, ls, st, h)
def xd2x1 (nx : Nat) (ls : xL) (st : List Value) (h : xH) : xO := match st with
  | v :: w :: r => (bif Nat.beq v.category 2 && Nat.beq w.category 1 then .inl (nx, ls, v :: w :: v :: r, h) else xno (nx, ls, st, h))
  | _ => xno (nx, ls, st, h)
end
section
/-- one instruction -/
def xins (E : xE) (M : xM) (i : Instr) (nx : Nat) (tg : List Nat) (v : Value) (ls : xL) (st : List Value) (h : xH) : xO := match i with
  | .iconst _ => .inl (nx, ls, v :: st, h)
  | .bipush _ => .inl (nx, ls, v :: st, h)
  | .sipush _ => .inl (nx, ls, v :: st, h)
  | .lconst _ => .inl (nx, ls, v :: st, h)
  | .fconst _ => .inl (nx, ls, v :: st, h)
  | .ldc _ => .inl (nx, ls, v :: st, h)
  | .ldc_w _ => .inl (nx, ls, v :: st, h)
  | .ldc2_w _ => .inl (nx, ls, v :: st, h)
  | .aconst_null => .inl (nx, ls, .null :: st, h)
  | .iload k => xloi k nx ls st h
  | .iload_n k => xloi k.val nx ls st h
  | .lload k => xlol k nx ls st h
  | .lload_n k => xlol k.val nx ls st h
  | .fload k => xlof k nx ls st h
  | .fload_n k => xlof k.val nx ls st h
  | .aload k => xloa k nx ls st h
  | .aload_n k => xloa k.val nx ls st h
  | .istore k => xsti k nx ls st h
  | .istore_n k => xsti k.val nx ls st h
  | .lstore k => xstl k nx ls st h
  | .lstore_n k => xstl k.val nx ls st h
  | .fstore k => xstf k nx ls st h
  | .fstore_n k => xstf k.val nx ls st h
  | .astore k => xsta k nx ls st h
  | .astore_n k => xsta k.val nx ls st h
  | .iinc k _ => xinc k v nx ls st h
  | .iadd => xii (fun x y => x + y) nx ls st h
  | .isub => xii (fun x y => x - y) nx ls st h
  | .imul => xii (fun x y => x * y) nx ls st h
  | .iand => xii (fun x y => x &&& y) nx ls st h
  | .ior => xii (fun x y => x ||| y) nx ls st h
  | .ixor => xii (fun x y => x ^^^ y) nx ls st h
  | .idiv => xiiD (fun x y => x / y) nx ls st h
  | .irem => xiiD (fun x y => x - x / y * y) nx ls st h
  | .ineg => xi (fun x => .int (-x)) nx ls st h
  | .ishl => xii (fun x y => x <<< (y &&& 31)) nx ls st h
  | .ishr => xii (fun x y => x >>> (y &&& 31)) nx ls st h
  | .iushr => xii (fun x y => (x.toUInt32 >>> (y.toUInt32 &&& Int32.toUInt32 31)).toInt32) nx ls st h
  | .i2l => xi (fun x => .long x.toInt64) nx ls st h
  | .i2b => xi (fun x => .int x.toInt8.toInt32) nx ls st h
  | .i2c => xi (fun x => .int (x.toUInt32 % 65536).toInt32) nx ls st h
  | .i2s => xi (fun x => .int x.toInt16.toInt32) nx ls st h
  | .i2f => xi (fun x => .float (FP.i2f x)) nx ls st h
  | .ladd => xll (fun x y => .long (x + y)) nx ls st h
  | .lsub => xll (fun x y => .long (x - y)) nx ls st h
  | .lmul => xll (fun x y => .long (x * y)) nx ls st h
  | .land => xll (fun x y => .long (x &&& y)) nx ls st h
  | .lor => xll (fun x y => .long (x ||| y)) nx ls st h
  | .lxor => xll (fun x y => .long (x ^^^ y)) nx ls st h
  | .lcmp => xll (fun x y => .int (lg_cmp x y)) nx ls st h
  | .lneg => xl (fun x => .long (-x)) nx ls st h
  | .lshl => xli (fun x y => x <<< (y.toInt64 &&& 63)) nx ls st h
  | .lshr => xli (fun x y => x >>> (y.toInt64 &&& 63)) nx ls st h
  | .lushr => xli (fun x y => (x.toUInt64 >>> (y.toInt64.toUInt64 &&& Int64.toUInt64 63)).toInt64) nx ls st h
  | .l2i => xl (fun x => .int x.toInt32) nx ls st h
  | .l2f => xl (fun x => .float (FP.l2f x)) nx ls st h
  | .fadd => xff FP.fadd nx ls st h
  | .fsub => xff FP.fsub nx ls st h
  | .fmul => xff FP.fmul nx ls st h
  | .fdiv => xff FP.fdiv nx ls st h
  | .fneg => xf (fun x => .float (FP.fneg x)) nx ls st h
  | .f2i => xf (fun x => .int (FP.f2i x)) nx ls st h
  | .fcmp op => xfc op nx ls st h
  | .dup => xdup nx ls st h
  | .dup_x1 => xdx1 nx ls st h
  | .dup_x2 => xdx2 nx ls st h
  | .dup2 => xd2 nx ls st h
  | .dup2_x1 => xd2x1 nx ls st h
  | .pop => xpo nx ls st h
  | .ifCond .eq _ => xb1 (fun x => x = 0) nx tg ls st h
  | .ifCond .ne _ => xb1 (fun x => ¬ x = 0) nx tg ls st h
  | .ifCond .lt _ => xb1 (fun x => x < 0) nx tg ls st h
  | .ifCond .ge _ => xb1 (fun x => 0 ≤ x) nx tg ls st h
  | .ifCond .gt _ => xb1 (fun x => 0 < x) nx tg ls st h
  | .ifCond .le _ => xb1 (fun x => x ≤ 0) nx tg ls st h
  | .if_icmp .eq _ => xb2 (fun x y => x = y) nx tg ls st h
  | .if_icmp .ne _ => xb2 (fun x y => ¬ x = y) nx tg ls st h
  | .if_icmp .lt _ => xb2 (fun x y => x < y) nx tg ls st h
  | .if_icmp .ge _ => xb2 (fun x y => y ≤ x) nx tg ls st h
  | .if_icmp .gt _ => xb2 (fun x y => y < x) nx tg ls st h
  | .if_icmp .le _ => xb2 (fun x y => x ≤ y) nx tg ls st h
  | .ifnull _ => (match tg with
    | [t] => xnul t nx ls st h
    | _ => xno (nx, ls, st, h))
  | .ifnonnull _ => (match tg with
    | [t] => xnul nx t ls st h
    | _ => xno (nx, ls, st, h))
  | .goto _ => (match tg with
    | [t] => .inl (t, ls, st, h)
    | _ => xno (nx, ls, st, h))
  | .tableswitch _ lo _ _ => (match tg with
    | t :: ts => xswt lo nx t ts ls st h
    | _ => xno (nx, ls, st, h))
  | .getfield _ => xgf E nx tg ls st h
  | .putfield _ => xpf E nx tg ls st h
  | .iaload => xaldI nx ls st h
  | .baload => xaldB nx ls st h
  | .laload => xaldL nx ls st h
  | .faload => xaldF nx ls st h
  | .aaload => xaldA nx ls st h
  | .iastore => xastI nx ls st h
  | .bastore => xastB nx ls st h
  | .lastore => xastL nx ls st h
  | .fastore => xastF nx ls st h
  | .arraylength => xaln nx ls st h
  | .new _ => xnew E nx tg ls st h
  | .newarray a => xnar (xty a) nx ls st h
  | .multianewarray _ _ => xmul nx ls st h
  | .invokestatic _ => xivs E nx tg ls st h
  | .invokevirtual _ => xivv E nx tg ls st h
  | .invokespecial _ => xivi E nx tg ls st h
  | .ireturn => xrei M st h
  | .lreturn => xrel M st h
  | .freturn => xref M st h
  | .areturn => xrea M st h
  | .return_ => xrev M st h
  | _ => xno (nx, ls, st, h)
def xstep (E : xE) (M : xM) (f : xF) : xO := match M.2.2.2.2.2 f.1 with
  | none => xno f
  | some (i, nx, tg, v) => xins E M i nx tg v f.2.1 f.2.2.1 f.2.2.2
def xdl (rn : xF → Prop) : List (Prop × xF) → xF → Prop
  | [], f => rn f
  | (c, g) :: t, f => (c → rn g) ∧ (¬ c → xdl rn t f)
/-- what must hold ahead of an instruction: rc for a called method, rn for the next instruction -/
def xwo (E : xE) (rc : Nat → xM → xF → xP → Prop) (rn : xF → xP → Prop) (d : Nat) (Q : xP) (o : xO) : Prop := match o with
  | .inl g => rn g Q
  | .inr (.inl (C, g)) => C ∧ rn g Q
  | .inr (.inr (.inl (cs, g))) => xdl (fun g => rn g Q) cs g
  | .inr (.inr (.inr (.inl (y, av, pc, ls, st, h)))) => (match d with
    | 0 => False
    | d + 1 => rc d (E.1 y) (0, xent (E.1 y) av, [], h) (fun v h' => rn (pc, ls, v.toList ++ st, h') Q))
  | .inr (.inr (.inr (.inr (C, v, h)))) => C ∧ Q v h
def xwp (E : xE) (rc : Nat → xM → xF → xP → Prop) (rn : xF → xP → Prop) (d : Nat) (M : xM) (f : xF) (Q : xP) : Prop := xwo E rc rn d Q (xstep E M f)
def xr (E : xE) : Nat → Nat → xM → xF → xP → Prop
  | 0, _, _, _, _ => False
  | n + 1, d, M, f, Q => xwp E (xr E n) (xr E n d M) d M f Q
def XC (E : xE) (d : Nat) (M : xM) (f : xF) (Q : xP) : Prop := ∃ n, xr E n d M f Q
/-- a method, called with these values -/
def XM (E : xE) (d : Nat) (y : Nat) (av : List Value) (h : xH) (Q : xP) : Prop := XC E d (E.1 y) (0, xent (E.1 y) av, [], h) Q
def xin (n : Nat) : List Nat → Bool
  | [] => false
  | a :: t => bif Nat.beq n a then true else xin n t
/-- from here to the next cut -/
def xs (E : xE) (cuts : List Nat) : Nat → Nat → xM → xF → xP → Prop
  | 0, d, M, f, Q => XC E d M f Q
  | n + 1, d, M, f, Q => xwp E (XC E) (fun f' Q' => bif xin f'.1 cuts then XC E d M f' Q' else xs E cuts n d M f' Q') d M f Q
/-! laws -/
theorem xdl_mono {r1 r2 : xF → Prop} (h : ∀ f, r1 f → r2 f) : ∀ (cs : List (Prop × xF)) (g : xF), xdl r1 cs g → xdl r2 cs g
  | [], g, k => h g k
  | (_, _) :: t, g, k => ⟨fun c => h _ (k.1 c), fun c => xdl_mono h t g (k.2 c)⟩
theorem xwp_mono {E : xE} {rc rc' : Nat → xM → xF → xP → Prop} {rn rn' : xF → xP → Prop} {d : Nat} {M : xM} {f : xF} {Q Q' : xP}
    (hc : ∀ d M f (P P' : xP), (∀ v h, P v h → P' v h) → rc d M f P → rc' d M f P') (hn : ∀ f, rn f Q → rn' f Q') (hQ : ∀ v h, Q v h → Q' v h) (k : xwp E rc rn d M f Q) : xwp E rc' rn' d M f Q' := by
  unfold xwp xwo at k ⊢
  split at k
  · exact hn _ k
  · exact ⟨k.1, hn _ k.2⟩
  · exact xdl_mono (fun g => hn g) _ _ k
  · split at k
    · exact k.elim
    · exact hc _ _ _ _ _ (fun v h => hn _) k
  · exact ⟨k.1, hQ _ _ k.2⟩
theorem xr_Q {E : xE} : ∀ (n d : Nat) (M : xM) (f : xF) (Q Q' : xP), (∀ v h, Q v h → Q' v h) → xr E n d M f Q → xr E n d M f Q'
  | 0, _, _, _, _, _, _, k => k
  | n + 1, _, _, _, _, _, hQ, k => xwp_mono (fun d M f P P' h => xr_Q n d M f P P' h) (fun f => xr_Q n _ _ f _ _ hQ) hQ k
theorem xr_S {E : xE} : ∀ (n d : Nat) (M : xM) (f : xF) (Q : xP), xr E n d M f Q → xr E (n + 1) d M f Q
  | 0, _, _, _, _, k => k.elim
  | n + 1, d, M, f, Q, k => by
    refine xwp_mono (rc := xr E n) (rn := xr E n d M) (fun d M f P P' h k => xr_Q (n + 1) d M f P P' h (xr_S n d M f P k)) (fun f => xr_S n d M f Q) (fun _ _ h => h) k
theorem xr_le {E : xE} {n m d : Nat} {M : xM} {f : xF} {Q : xP} (hnm : n ≤ m) (k : xr E n d M f Q) : xr E m d M f Q := by
  induction hnm with
  | refl => exact k
  | step _ ih => exact xr_S _ _ _ _ _ ih
theorem XC.mono {E : xE} {d : Nat} {M : xM} {f : xF} {Q Q' : xP} (h : ∀ v h, Q v h → Q' v h) (k : XC E d M f Q) : XC E d M f Q' := by
  obtain ⟨n, k⟩ := k
  exact ⟨n, xr_Q n _ _ _ _ _ h k⟩
theorem xdl_det {rn : xF → xP → Prop} {Q : xP} (H : ∀ f, rn f Q → ∃ v h, Q v h ∧ rn f (fun v' h' => v' = v ∧ h' = h)) : ∀ (cs : List (Prop × xF)) (g : xF), xdl (fun g => rn g Q) cs g → ∃ v h, Q v h ∧ xdl (fun g => rn g (fun v' h' => v' = v ∧ h' = h)) cs g
  | [], g, k => H g k
  | (c, g1) :: t, g, k => by
    by_cases hc : c
    · obtain ⟨v, h, q, k2⟩ := H g1 (k.1 hc)
      exact ⟨v, h, q, fun _ => k2, fun z => absurd hc z⟩
    · obtain ⟨v, h, q, k2⟩ := xdl_det H t g (k.2 hc)
      exact ⟨v, h, q, fun z => absurd z hc, fun _ => k2⟩
theorem xdl_ex {E : xE} {d : Nat} {M : xM} {Q : xP} : ∀ (cs : List (Prop × xF)) (g : xF), xdl (fun g => XC E d M g Q) cs g → ∃ n, xdl (fun g => xr E n d M g Q) cs g
  | [], g, k => k
  | (c, g1) :: t, g, k => by
    by_cases hc : c
    · obtain ⟨n, k⟩ := k.1 hc
      exact ⟨n, fun _ => k, fun z => absurd hc z⟩
    · obtain ⟨n, k⟩ := xdl_ex t g (k.2 hc)
      exact ⟨n, fun z => absurd z hc, fun _ => k⟩
/-- there is one end -/
theorem xr_det {E : xE} : ∀ (n d : Nat) (M : xM) (f : xF) (Q : xP), xr E n d M f Q → ∃ v h, Q v h ∧ xr E n d M f (fun v' h' => v' = v ∧ h' = h)
  | 0, _, _, _, _, k => k.elim
  | n + 1, d, M, f, Q, k => by
    have k1 : xwp E (xr E n) (xr E n d M) d M f Q := k
    show ∃ v h, Q v h ∧ xwp E (xr E n) (xr E n d M) d M f (fun v' h' => v' = v ∧ h' = h)
    unfold xwp xwo at k1 ⊢
    split at k1
    · exact xr_det n _ _ _ _ k1
    · obtain ⟨c, k1⟩ := k1
      obtain ⟨v, h, q, k2⟩ := xr_det n _ _ _ _ k1
      exact ⟨v, h, q, c, k2⟩
    · exact xdl_det (rn := xr E n d M) (fun f k => xr_det n _ _ _ _ k) _ _ k1
    · split at k1
      · exact k1.elim
      · obtain ⟨v, h, q, k2⟩ := xr_det n _ _ _ _ k1
        obtain ⟨v2, h2, q2, k3⟩ := xr_det n _ _ _ _ q
        exact ⟨v2, h2, q2, xr_Q n _ _ _ _ _ (fun v' h' e => by obtain ⟨rfl, rfl⟩ := e; exact k3) k2⟩
    · exact ⟨_, _, k1.2, k1.1, rfl, rfl⟩
theorem XC.step {E : xE} {d : Nat} {M : xM} {f : xF} {Q : xP} (k : xwp E (XC E) (XC E d M) d M f Q) : XC E d M f Q := by
  suffices h : ∃ n, xwp E (xr E n) (xr E n d M) d M f Q by
    obtain ⟨n, h⟩ := h
    exact ⟨n + 1, h⟩
  unfold xwp xwo at k ⊢
  split at k
  · obtain ⟨n, k⟩ := k
    exact ⟨n, k⟩
  · obtain ⟨c, n, k⟩ := k
    exact ⟨n, c, k⟩
  · exact xdl_ex _ _ k
  · split at k
    · exact k.elim
    · obtain ⟨n, k⟩ := k
      obtain ⟨v, h, ⟨m, q⟩, k2⟩ := xr_det n _ _ _ _ k
      refine ⟨max n m, xr_le (Nat.le_max_left n m) (xr_Q n _ _ _ _ _ (fun v' h' e => ?_) k2)⟩
      obtain ⟨rfl, rfl⟩ := e
      exact xr_le (Nat.le_max_right n m) q
  · exact ⟨0, k⟩
theorem XC.block {E : xE} (cuts : List Nat) : ∀ (n : Nat) {d : Nat} {M : xM} {f : xF} {Q : xP}, xs E cuts n d M f Q → XC E d M f Q
  | 0, _, _, _, _, k => k
  | n + 1, d, M, f, Q, k => by
    refine XC.step (xwp_mono (rc := XC E) (rn := fun f' Q' => bif xin f'.1 cuts then XC E d M f' Q' else xs E cuts n d M f' Q') (fun d M f P P' h k => k.mono h) (fun f' k2 => ?_) (fun _ _ h => h) k)
    cases hx : xin f'.1 cuts with
    | true => rw [hx] at k2; exact k2
    | false => rw [hx] at k2; exact XC.block cuts n k2
theorem xr_d {E : xE} : ∀ (n d : Nat) (M : xM) (f : xF) (Q : xP), xr E n d M f Q → xr E n (d + 1) M f Q
  | 0, _, _, _, _, k => k
  | n + 1, d, M, f, Q, k => by
    have k1 : xwp E (xr E n) (xr E n d M) d M f Q := k
    show xwp E (xr E n) (xr E n (d + 1) M) (d + 1) M f Q
    unfold xwp xwo at k1 ⊢
    split at k1
    · exact xr_d n _ _ _ _ k1
    · exact ⟨k1.1, xr_d n _ _ _ _ k1.2⟩
    · exact xdl_mono (fun g => xr_d n _ _ _ _) _ _ k1
    · split at k1
      · exact k1.elim
      · exact xr_Q n _ _ _ _ _ (fun v h => xr_d n _ _ _ _) (xr_d n _ _ _ _ k1)
    · exact k1
theorem XC.le {E : xE} {d d' : Nat} {M : xM} {f : xF} {Q : xP} (hd : d ≤ d') (k : XC E d M f Q) : XC E d' M f Q := by
  induction hd with
  | refl => exact k
  | step _ ih =>
    obtain ⟨n, ih⟩ := ih
    exact ⟨n, xr_d n _ _ _ _ ih⟩
theorem XM.le {E : xE} {d d' : Nat} {y : Nat} {av : List Value} {h : xH} {Q : xP} (hd : d ≤ d') (k : XM E d y av h Q) : XM E d' y av h Q := XC.le hd k
theorem XM.mono {E : xE} {d : Nat} {y : Nat} {av : List Value} {h : xH} {Q Q' : xP} (hq : ∀ v h, Q v h → Q' v h) (k : XM E d y av h Q) : XM E d y av h Q' := XC.mono hq k
theorem XM.det {E : xE} {d : Nat} {y : Nat} {av : List Value} {h : xH} {Q : xP} (k : XM E d y av h Q) : ∃ v h', Q v h' ∧ XM E d y av h (fun v2 h2 => v2 = v ∧ h2 = h') := by
  obtain ⟨n, k⟩ := k
  obtain ⟨v, h2, q, k2⟩ := xr_det n _ _ _ _ k
  exact ⟨v, h2, q, n, k2⟩
end
section
/-! the machine on paper and the machine: how their states belong together -/
/-- the address of a cell -/
def xa (ad : Nat → Nat) (ws : va_W) (k : Nat) : Option Nat := bif Nat.ble xt0 k then some (ad (k - xt0)) else (ws[k]?).map Prod.fst
def xmon (r1 r2 : Nat → Option Nat) : Prop := ∀ k a, r1 k = some a → r2 k = some a
def xv (r : Nat → Option Nat) (v w : Value) : Prop := match v with
  | .ref k => ∃ a, r k = some a ∧ w = .ref a
  | .int x => w = .int x
  | .long x => w = .long x
  | .float x => w = .float x
  | .double x => w = .double x
  | .null => w = .null
  | .retAddr _ => False
def xvo (r : Nat → Option Nat) (v w : Option Value) : Prop := match v with
  | none => w = none
  | some v => ∃ u, w = some u ∧ xv r v u
def xva (r : Nat → Option Nat) : List Value → List Value → Prop
  | [], w => w = []
  | v :: vs, w => ∃ u us, w = u :: us ∧ xv r v u ∧ xva r vs us
def xqr (r : Nat → Option Nat) (o : Option (Option Nat)) (x : Option Nat) : Prop := match o with
  | some (some k) => ∃ a, r k = some a ∧ x = some a
  | _ => x = none
def xce (E : xE) (cA : FieldType → ClassId) (r : Nat → Option Nat) (t : xS) (i : Nat) (d : xD) (e : va_E) : Prop := match t with
  | .inl (.int, n, _) => e = .inl (cA .int, n, .inl (d.1 i))
  | .inl (.byte, n, _) => e = .inl (cA .byte, n, .inl (d.1 i))
  | .inl (.long, n, _) => e = .inl (cA .long, n, .inr (.inl (d.2.1 i)))
  | .inl (.float, n, _) => e = .inl (cA .float, n, .inr (.inr (.inl (d.2.2 i))))
  | .inl (.array .float, n, rs) => ∃ f : Nat → Option Nat, e = .inl (cA (.array .float), n, .inr (.inr (.inr (.inr f)))) ∧ ∀ j, j < n → xqr r rs[j]? (f j)
  | .inl _ => False
  | .inr (ci, rf) => ∃ fs : List Value, e = .inr (ci, fs) ∧ fs.length = (E.2.1 ci).length ∧ rf.length = (E.2.1 ci).length ∧ ∀ (k : Nat) (ty : FieldType), (E.2.1 ci)[k]? = some ty → ∃ v, fs[k]? = some v ∧ xv r (xget ty k i rf d) v
def xW (E : xE) (ad : Nat → Nat) (cA : FieldType → ClassId) (h : xH) (ws : va_W) : Prop := ws.length = h.1.length ∧ h.1.length ≤ xt0 ∧ ∀ (i : Nat) (t : xS), h.1[i]? = some t → ∃ a e, ws[i]? = some (a, e) ∧ xce E cA (xa ad ws) t i h.2 e
def xtys (cA : FieldType → ClassId) : List (ClassId × FieldType) := [(cA .int, .int), (cA .byte, .byte), (cA .long, .long), (cA .float, .float), (cA (.array .float), .array .float)]
def xls (r : Nat → Option Nat) (l : xL) (ls : Array Slot) (nL : Nat) : Prop := ls.size = nL ∧ l.length = nL ∧ lv_wf ls ∧ ∀ (i : Nat) (v : Value), xld l i = some v → ∃ w, ls[i]? = some (.val w) ∧ xv r v w
def xs1 (E : xE) (t : xS) : Nat := match t with
  | .inl (_, n, _) => n
  | .inr (ci, _) => (E.2.1 ci).length
def xsz (E : xE) (sh : List xS) : Nat := (sh.map (xs1 E)).sum
def xroom (d mc ms : Nat) : Room := { frames := d + 8, cells := mc, slots := ms, locals := 60 * d + 400 }
theorem xv_mono {r1 r2 : Nat → Option Nat} (h : xmon r1 r2) {v w : Value} (k : xv r1 v w) : xv r2 v w := by
  cases v with
  | ref q => obtain ⟨a, h1, h2⟩ := k; exact ⟨a, h _ _ h1, h2⟩
  | _ => exact k
theorem xvo_mono {r1 r2 : Nat → Option Nat} (h : xmon r1 r2) {v w : Option Value} (k : xvo r1 v w) : xvo r2 v w := by
  cases v with
  | none => exact k
  | some q => obtain ⟨a, h1, h2⟩ := k; exact ⟨a, h1, xv_mono h h2⟩
theorem xva_mono {r1 r2 : Nat → Option Nat} (h : xmon r1 r2) : ∀ {v w : List Value}, xva r1 v w → xva r2 v w
  | [], _, k => k
  | _ :: _, _, ⟨u, us, e, h1, h2⟩ => ⟨u, us, e, xv_mono h h1, xva_mono h h2⟩
theorem xls_mono {r1 r2 : Nat → Option Nat} (h : xmon r1 r2) {l : xL} {ls : Array Slot} {nL : Nat} (k : xls r1 l ls nL) : xls r2 l ls nL :=
  ⟨k.1, k.2.1, k.2.2.1, fun i v hv => by obtain ⟨w, h1, h2⟩ := k.2.2.2 i v hv; exact ⟨w, h1, xv_mono h h2⟩⟩
theorem xce_mono {E : xE} {cA : FieldType → ClassId} {r1 r2 : Nat → Option Nat} (h : xmon r1 r2) {t : xS} {i : Nat} {d : xD} {e : va_E} (k : xce E cA r1 t i d e) : xce E cA r2 t i d e := by
  unfold xce at k ⊢
  split at k
  · exact k
  · exact k
  · exact k
  · exact k
  · obtain ⟨f, h1, h2⟩ := k
    refine ⟨f, h1, fun j hj => ?_⟩
    have h3 := h2 j hj
    unfold xqr at h3 ⊢
    split at h3
    · obtain ⟨a, e1, e2⟩ := h3; exact ⟨a, h _ _ e1, e2⟩
    · exact h3
  · exact k
  · obtain ⟨fs, h1, h2, h4, h3⟩ := k
    refine ⟨fs, h1, h2, h4, fun j ty hj => ?_⟩
    obtain ⟨v, e1, e2⟩ := h3 j ty hj
    exact ⟨v, e1, xv_mono h e2⟩
theorem xv_cat {r : Nat → Option Nat} {v w : Value} (k : xv r v w) : w.category = v.category := by
  cases v with
  | ref q => obtain ⟨a, h1, rfl⟩ := k; rfl
  | retAddr _ => exact k.elim
  | _ => rw [show w = _ from k]
theorem xva_cat {r : Nat → Option Nat} : ∀ {v w : List Value}, xva r v w → xcat w = xcat v
  | [], _, k => by rw [show _ = [] from k]
  | v :: vs, _, ⟨u, us, e, h1, h2⟩ => by
    have := xva_cat h2
    rw [e]
    simp only [xcat, List.map_cons, List.sum_cons] at this ⊢
    rw [this, xv_cat h1]
theorem xmon_app (ad : Nat → Nat) (ws : va_W) (q : List (Nat × va_E)) : xmon (xa ad ws) (xa ad (ws ++ q)) := by
  intro k a h
  unfold xa at h ⊢
  cases hb : Nat.ble xt0 k with
  | true => rw [hb] at h; exact h
  | false =>
    rw [hb] at h
    simp only [cond_false] at h ⊢
    cases hk : ws[k]? with
    | none => rw [hk] at h; cases h
    | some x =>
      rw [hk] at h
      rw [List.getElem?_append_left (List.getElem?_eq_some_iff.mp hk).1, hk]
      exact h
theorem xa_set (ad : Nat → Nat) (ws : va_W) {q0 a : Nat} {e0 e : va_E} (h : ws[q0]? = some (a, e0)) : xa ad (ws.set q0 (a, e)) = xa ad ws := by
  funext k
  unfold xa
  congr 1
  by_cases hk : k = q0
  · subst hk
    rw [List.getElem?_set_self (List.getElem?_eq_some_iff.mp h).1, h]
    rfl
  · rw [List.getElem?_set_ne (Ne.symm hk)]
theorem xa_at {ad : Nat → Nat} {ws : va_W} {k a : Nat} (hk : k < xt0) (h : xa ad ws k = some a) : ∃ e, ws[k]? = some (a, e) := by
  unfold xa at h
  have hb : Nat.ble xt0 k = false := by
    cases hb : Nat.ble xt0 k with
    | false => rfl
    | true => exact absurd (Nat.le_of_ble_eq_true hb) (by omega)
  rw [hb] at h
  simp only [cond_false] at h
  cases hw : ws[k]? with
  | none => rw [hw] at h; cases h
  | some x => rw [hw] at h; obtain ⟨a1, e1⟩ := x; cases h; exact ⟨e1, rfl⟩
theorem xa_of {ad : Nat → Nat} {ws : va_W} {k a : Nat} {e : va_E} (hk : k < xt0) (h : ws[k]? = some (a, e)) : xa ad ws k = some a := by
  unfold xa
  have hb : Nat.ble xt0 k = false := by
    cases hb : Nat.ble xt0 k with
    | false => rfl
    | true => exact absurd (Nat.le_of_ble_eq_true hb) (by omega)
  rw [hb, h]
  rfl
/-- a cell of the world -/
theorem xW_at {E : xE} {ad : Nat → Nat} {cA : FieldType → ClassId} {h : xH} {ws : va_W} (k : xW E ad cA h ws) {i a : Nat} {t : xS} (hi : h.1[i]? = some t) (ha : xa ad ws i = some a) : ∃ e, ws[i]? = some (a, e) ∧ xce E cA (xa ad ws) t i h.2 e := by
  obtain ⟨a2, e, h1, h2⟩ := k.2.2 i t hi
  have hl : i < xt0 := Nat.lt_of_lt_of_le (List.getElem?_eq_some_iff.mp hi).1 k.2.1
  have := (xa_of (ad := ad) hl h1).symm.trans ha
  cases this
  exact ⟨e, h1, h2⟩
/-- the locals -/
def xall (ls : Array Slot) : List (Nat × Value) := (List.range ls.size).filterMap fun i => match (ls[i]? : Option Slot) with
  | some (Slot.val w) => some (i, w)
  | _ => none
theorem xall_mem {ls : Array Slot} {i : Nat} {w : Value} : (i, w) ∈ xall ls ↔ ls[i]? = some (.val w) := by
  unfold xall
  rw [List.mem_filterMap]
  constructor
  · rintro ⟨j, -, hj⟩
    split at hj
    · rename_i w2 h2
      cases hj
      exact h2
    · cases hj
  · intro h
    refine ⟨i, List.mem_range.mpr (Array.getElem?_eq_some_iff.mp h).1, ?_⟩
    rw [h]
theorem xls_has {r : Nat → Option Nat} {l : xL} {ls : Array Slot} {nL : Nat} (k : xls r l ls nL) : lv_has ls nL (xall ls) := ⟨k.1, k.2.2.1, fun q hq => xall_mem.mp hq⟩
theorem xld_set {l : xL} {i j : Nat} {o : Option Value} : xld (l.set i o) j = if j = i ∧ j < l.length then o else xld l j := by
  unfold xld
  by_cases h : j = i
  · subst h
    by_cases hl : j < l.length
    · rw [List.getElem?_set_self hl, if_pos ⟨rfl, hl⟩]
    · rw [if_neg (fun q => hl q.2), List.getElem?_eq_none (by rw [List.length_set]; omega), List.getElem?_eq_none (by omega)]
  · rw [if_neg (fun q => h q.1), List.getElem?_set_ne (Ne.symm h)]
theorem xkill_len (l : xL) (i : Nat) : (xkill l i).length = l.length := by
  unfold xkill
  split
  · rfl
  · split
    · cases hb : Nat.beq _ 2 <;> simp
    · rfl
/-- what is left of the locals when one of them is to be written -/
theorem xkill_ld {l : xL} {i j : Nat} {v : Value} (h : xld (xkill l i) j = some v) : xld l j = some v ∧ ¬ (j + 1 = i ∧ v.category = 2) := by
  unfold xkill at h
  split at h
  · exact ⟨h, fun q => by omega⟩
  · rename_i i0
    split at h
    · rename_i w hw
      cases hb : Nat.beq w.category 2 with
      | true =>
        rw [hb] at h
        simp only [cond_true] at h
        rw [xld_set] at h
        split at h
        · cases h
        · rename_i hn
          refine ⟨h, fun q => ?_⟩
          have : j = i0 := by omega
          subst this
          unfold xld at h
          split at h
          · rename_i o ho
            exact hn ⟨rfl, (List.getElem?_eq_some_iff.mp ho).1⟩
          · cases h
      | false =>
        rw [hb] at h
        simp only [cond_false] at h
        refine ⟨h, fun q => ?_⟩
        have : j = i0 := by omega
        subst this
        rw [hw] at h
        cases h
        have hq := q.2
        rw [hq] at hb
        cases hb
    · rename_i hw
      refine ⟨h, fun q => ?_⟩
      have : j = i0 := by omega
      subst this
      rw [hw] at h
      cases h
theorem xls_put {r : Nat → Option Nat} {l l' : xL} {ls ls' : Array Slot} {nL i : Nat} {v w : Value} (k : xls r l ls nL) (hp : xput l i v = some l') (hv : xv r v w) (h' : lv_has ls' nL ((i, w) :: (xall ls).filter (fun q => !(q.1 == i) && !(q.1 + 1 == i && q.2.category == 2)))) : xls r l' ls' nL ∧ i < nL := by
  unfold xput at hp
  split at hp
  · cases hp
  · rename_i o ho
    have hi : i < l.length := (List.getElem?_eq_some_iff.mp ho).1
    cases hp
    refine ⟨⟨h'.1, by rw [List.length_set, xkill_len]; exact k.2.1, h'.2.1, fun j u hj => ?_⟩, by rw [← k.2.1]; exact hi⟩
    rw [xld_set] at hj
    split at hj
    · rename_i hc
      cases hj
      rw [hc.1]
      exact ⟨w, h'.2.2 (i, w) List.mem_cons_self, hv⟩
    · rename_i hc
      have hji : ¬ j = i := fun q => hc ⟨q, by rw [xkill_len, q]; exact hi⟩
      obtain ⟨h1, h2⟩ := xkill_ld hj
      obtain ⟨z, e1, e2⟩ := k.2.2.2 j u h1
      refine ⟨z, h'.2.2 (j, z) (List.mem_cons_of_mem _ (List.mem_filter.mpr ⟨xall_mem.mpr e1, ?_⟩)), e2⟩
      have hcz := xv_cat e2
      simp only [Bool.and_eq_true, Bool.not_eq_true', beq_eq_false_iff_ne, ne_eq, Bool.and_eq_false_iff]
      refine ⟨hji, ?_⟩
      by_cases hz : j + 1 = i
      · exact Or.inr (fun q => h2 ⟨hz, hcz ▸ q⟩)
      · exact Or.inl hz
theorem xls_put2 {r : Nat → Option Nat} {l l' : xL} {ls ls' : Array Slot} {nL i : Nat} {v w : Value} (k : xls r l ls nL) (hp : xput2 l i v = some l') (hv : xv r v w) (h' : lv_has ls' nL ((i, w) :: (xall ls).filter (fun q => !(q.1 == i) && (!(q.1 == i + 1) && !(q.1 + 1 == i && q.2.category == 2))))) : xls r l' ls' nL := by
  unfold xput2 at hp
  split at hp
  · cases hp
  · rename_i o ho
    have hi : i + 1 < l.length := (List.getElem?_eq_some_iff.mp ho).1
    cases hp
    refine ⟨h'.1, by rw [List.length_set, List.length_set, xkill_len]; exact k.2.1, h'.2.1, fun j u hj => ?_⟩
    rw [xld_set] at hj
    split at hj
    · cases hj
    · rename_i hc0
      have hj1 : ¬ j = i + 1 := fun q => hc0 ⟨q, by rw [List.length_set, xkill_len, q]; exact hi⟩
      rw [xld_set] at hj
      split at hj
      · rename_i hc
        cases hj
        rw [hc.1]
        exact ⟨w, h'.2.2 (i, w) List.mem_cons_self, hv⟩
      · rename_i hc
        have hji : ¬ j = i := fun q => hc ⟨q, by rw [xkill_len, q]; omega⟩
        obtain ⟨h1, h2⟩ := xkill_ld hj
        obtain ⟨z, e1, e2⟩ := k.2.2.2 j u h1
        refine ⟨z, h'.2.2 (j, z) (List.mem_cons_of_mem _ (List.mem_filter.mpr ⟨xall_mem.mpr e1, ?_⟩)), e2⟩
        have hcz := xv_cat e2
        simp only [Bool.and_eq_true, Bool.not_eq_true', beq_eq_false_iff_ne, ne_eq, Bool.and_eq_false_iff]
        refine ⟨hji, hj1, ?_⟩
        by_cases hz : j + 1 = i
        · exact Or.inr (fun q => h2 ⟨hz, hcz ▸ q⟩)
        · exact Or.inl hz
theorem xput_lt {l l' : xL} {i : Nat} {v : Value} (hp : xput l i v = some l') : i < l.length := by
  unfold xput at hp
  split at hp
  · cases hp
  · rename_i o ho
    exact (List.getElem?_eq_some_iff.mp ho).1
theorem xput2_lt {l l' : xL} {i : Nat} {v : Value} (hp : xput2 l i v = some l') : i + 1 < l.length := by
  unfold xput2 at hp
  split at hp
  · cases hp
  · rename_i o ho
    exact (List.getElem?_eq_some_iff.mp ho).1
/-- the arguments of a call -/
theorem xpop_spec {r : Nat → Option Nat} : ∀ (n : Nat) (st acc av rest : List Value), xpop n st acc = some (av, rest) → ∃ as : List Value, av = as ++ acc ∧ as.length = n ∧ st = as.reverse ++ rest
  | 0, st, acc, av, rest, h => by cases h; exact ⟨[], rfl, rfl, rfl⟩
  | n + 1, [], acc, av, rest, h => by cases h
  | n + 1, v :: st, acc, av, rest, h => by
    obtain ⟨as, h1, h2, h3⟩ := xpop_spec (r := r) n st (v :: acc) av rest h
    exact ⟨as ++ [v], by rw [h1]; simp, by simp [h2], by rw [h3]; simp⟩
theorem xva_split {r : Nat → Option Nat} : ∀ {a b w : List Value}, xva r (a ++ b) w → ∃ wa wb, w = wa ++ wb ∧ xva r a wa ∧ xva r b wb
  | [], b, w, k => ⟨[], w, rfl, rfl, k⟩
  | v :: a, b, w, ⟨u, us, e, h1, h2⟩ => by
    obtain ⟨wa, wb, e2, h3, h4⟩ := xva_split h2
    exact ⟨u :: wa, wb, by rw [e, e2]; rfl, ⟨u, wa, rfl, h1, h3⟩, h4⟩
theorem xva_app {r : Nat → Option Nat} : ∀ {a b wa wb : List Value}, xva r a wa → xva r b wb → xva r (a ++ b) (wa ++ wb)
  | [], b, wa, wb, k, k2 => by rw [show wa = [] from k]; exact k2
  | v :: a, b, wa, wb, ⟨u, us, e, h1, h2⟩, k2 => by
    rw [e]
    exact ⟨u, us ++ wb, rfl, h1, xva_app h2 k2⟩
theorem xva_rev {r : Nat → Option Nat} : ∀ {a w : List Value}, xva r a w → xva r a.reverse w.reverse
  | [], w, k => by rw [show w = [] from k]; rfl
  | v :: a, w, ⟨u, us, e, h1, h2⟩ => by
    rw [e, List.reverse_cons, List.reverse_cons]
    exact xva_app (xva_rev h2) ⟨u, [], rfl, h1, rfl⟩
theorem xva_len {r : Nat → Option Nat} : ∀ {a w : List Value}, xva r a w → w.length = a.length
  | [], w, k => by rw [show w = [] from k]
  | v :: a, w, ⟨u, us, e, h1, h2⟩ => by rw [e, List.length_cons, List.length_cons, xva_len h2]
theorem xpad_len : ∀ (n : Nat) (l : xL), l.length ≤ n → (xpad n l).length = n
  | 0, l, h => by simpa [xpad] using h
  | n + 1, [], h => by simp [xpad, xpad_len n [] (Nat.zero_le n)]
  | n + 1, v :: l, h => by simp [xpad, xpad_len n l (by simpa using h)]
theorem xpad_ld : ∀ (n : Nat) (l : xL) (i : Nat) (v : Value), xld (xpad n l) i = some v → xld l i = some v
  | 0, l, i, v, h => h
  | n + 1, [], 0, v, h => by simp [xpad, xld] at h
  | n + 1, [], i + 1, v, h => by
    have : xld (xpad n []) i = some v := by simpa [xpad, xld] using h
    have := xpad_ld n [] i v this
    simp [xld] at this
  | n + 1, u :: l, 0, v, h => by simpa [xpad, xld] using h
  | n + 1, u :: l, i + 1, v, h => by
    have : xld (xpad n l) i = some v := by simpa [xpad, xld] using h
    simpa [xld] using xpad_ld n l i v this
theorem xflat_len : ∀ {av : List Value} {r : Nat → Option Nat} {w : List Value}, xva r av w → (xflat av).length = (lg_sl w).length
  | [], r, w, k => by rw [show w = [] from k]; rfl
  | v :: vs, r, w, ⟨u, us, e, h1, h2⟩ => by
    have ih := xflat_len h2
    have hc := xv_cat h1
    rw [e]
    simp only [lg_sl, List.flatMap_cons, List.length_append] at ih ⊢
    unfold xflat
    by_cases h : v.category = 2
    · rw [h, if_pos (hc.trans h)]
      simp [ih]
      omega
    · rw [if_neg (fun q => h (hc.symm.trans q))]
      have : Nat.beq v.category 2 = false := by
        cases hb : Nat.beq v.category 2 with
        | false => rfl
        | true => exact absurd (Nat.eq_of_beq_eq_true hb) h
      rw [this]
      simp [ih]
      omega
theorem xflat_ld : ∀ {av : List Value} {r : Nat → Option Nat} {w : List Value} (i0 : Nat) (i : Nat) (v : Value), xva r av w → xld (xflat av) i = some v → ∃ u, (i0 + i, u) ∈ lv_args i0 w ∧ xv r v u
  | [], r, w, i0, i, v, k, h => by simp [xflat, xld] at h
  | z :: vs, r, w, i0, i, v, ⟨u, us, e, h1, h2⟩, h => by
    have hc := xv_cat h1
    rw [e]
    unfold xflat at h
    by_cases hz : z.category = 2
    · rw [hz] at h
      have hu : u.category = 2 := hc.trans hz
      simp only [lv_args, hu, if_true]
      match i, h with
      | 0, h =>
        have : z = v := by simpa [xld] using h
        subst this
        exact ⟨u, List.mem_cons_self, h1⟩
      | 1, h => simp [xld] at h
      | i + 2, h =>
        have h3 : xld (xflat vs) i = some v := by simpa [xld] using h
        obtain ⟨x, e1, e2⟩ := xflat_ld (i0 + 2) i v h2 h3
        exact ⟨x, List.mem_cons_of_mem _ (by rw [show i0 + (i + 2) = i0 + 2 + i by omega]; exact e1), e2⟩
    · have hb : Nat.beq z.category 2 = false := by
        cases hb : Nat.beq z.category 2 with
        | false => rfl
        | true => exact absurd (Nat.eq_of_beq_eq_true hb) hz
      rw [hb] at h
      have hu : ¬ u.category = 2 := fun q => hz (hc.symm.trans q)
      simp only [lv_args, hu, if_false]
      match i, h with
      | 0, h =>
        have : z = v := by simpa [xld] using h
        subst this
        exact ⟨u, List.mem_cons_self, h1⟩
      | i + 1, h =>
        have h3 : xld (xflat vs) i = some v := by simpa [xld] using h
        obtain ⟨x, e1, e2⟩ := xflat_ld (i0 + 1) i v h2 h3
        exact ⟨x, List.mem_cons_of_mem _ (by rw [show i0 + (i + 1) = i0 + 1 + i by omega]; exact e1), e2⟩
/-- the locals with which a method begins -/
theorem xls_entry {r : Nat → Option Nat} {av w : List Value} {n : Nat} (k : xva r av w) (hn : (xflat av).length ≤ n) : xls r (xpad n (xflat av)) ((lg_sl w ++ List.replicate (n - (lg_sl w).length) Slot.unset).toArray) n := by
  have hl : (lg_sl w).length ≤ n := by rw [← xflat_len k]; exact hn
  have h := lv_entry w (n := n) hl
  refine ⟨h.1, xpad_len n _ hn, h.2.1, fun i v hv => ?_⟩
  obtain ⟨u, e1, e2⟩ := xflat_ld 0 i v k (xpad_ld n _ i v hv)
  rw [Nat.zero_add] at e1
  exact ⟨u, h.2.2 (i, u) e1, e2⟩
end
section
/-- a state of the machine that belongs to a frame on paper -/
def xRel (E : xE) (ad : Nat → Nat) (cA : FieldType → ClassId) (D : va_G) (cl : List vw_C) (A : Nat → Prop) (r0 : Nat → Option Nat) (s : State) (nL : Nat) (f : xF) (ws : va_W) (H : Heap) (locs : List Loc) (lsC : Array Slot) (stC : List Value) : Prop :=
  (xW E ad cA f.2.2.2 ws ∧ xmon r0 (xa ad ws)) ∧ va_P D cl ws H ∧ va_D A ws ∧ va_S A s.heap H locs ∧ xls (xa ad ws) f.2.1 lsC nL ∧ xva (xa ad ws) f.2.2.1 stC
/-- every state that belongs to this frame goes on to its end -/
def xG (p : Program) (l : Launch) (e : Env) (R : Room) (s : State) (m : MethodId) (args : Array Value) (below : List Frame) (meth : Method) (c : Code) (Q : State → Prop) (E : xE) (ad : Nat → Nat) (cA : FieldType → ClassId) (D : va_G) (cl : List vw_C) (A : Nat → Prop) (r0 : Nat → Option Nat) (nL mc ms fin finS : Nat) (g : xF) : Prop :=
  ∀ (cells slots : Nat) (ws : va_W) (H : Heap) (locs : List Loc) (lsC : Array Slot) (stC : List Value), cells + fin ≤ mc + g.2.2.2.1.length → slots + finS ≤ ms + xsz E g.2.2.2.1 → xRel E ad cA D cl A r0 s nL g ws H locs lsC stC → W p l e R s m args below meth c H locs cells slots Q (F0 m g.1 lsC stC)
section XSO
variable {p : Program} {l : Launch} {e : Env} {R : Room} {s : State} {m : MethodId} {args : Array Value} {below : List Frame} {meth : Method} {c : Code} {Q : State → Prop}
variable {E : xE} {ad : Nat → Nat} {cA : FieldType → ClassId} {D : va_G} {cl : List vw_C} {A : Nat → Prop} {r0 : Nat → Option Nat} {nL mc ms fin finS : Nat}
variable {rc : Nat → xM → xF → xP → Prop} {rn : xF → xP → Prop} {d : Nat} {Q0 : xP} {pc nx : Nat} {ls : xL} {st : List Value} {h : xH}
theorem so_ii (hN : ∀ f, rn f Q0 → xG p l e R s m args below meth c Q E ad cA D cl A r0 nL mc ms fin finS f) {g : Int32 → Int32 → Int32} (row : ∀ (H : Heap) (locs : List Loc) (cells slots : Nat) (lsC : Array Slot) (rest : List Value) (x : Int32) (y : Int32), W p l e R s m args below meth c H locs cells slots Q (F0 m nx lsC (.int (g x y) :: rest)) → W p l e R s m args below meth c H locs cells slots Q (F0 m pc lsC (.int y :: .int x :: rest))) (k : xwo E rc rn d Q0 (xii g nx ls st h)) : xG p l e R s m args below meth c Q E ad cA D cl A r0 nL mc ms fin finS (pc, ls, st, h) := by
  unfold xii at k
  split at k
  · rename_i y x r
    intro cells slots ws H locs lsC stC h1 h2 hr
    obtain ⟨hW, hP, hD, hS, hl, hst⟩ := hr
    obtain ⟨_, _, rfl, rfl, _, _, rfl, rfl, hst⟩ := hst
    exact row _ _ _ _ _ _ _ _ (hN _ k cells slots ws H locs lsC _ h1 h2 ⟨hW, hP, hD, hS, hl, ⟨_, _, rfl, rfl, hst⟩⟩)
  · exact k.1.elim
theorem so_iiD (hN : ∀ f, rn f Q0 → xG p l e R s m args below meth c Q E ad cA D cl A r0 nL mc ms fin finS f) {g : Int32 → Int32 → Int32} (row : ∀ (H : Heap) (locs : List Loc) (cells slots : Nat) (lsC : Array Slot) (rest : List Value) (x : Int32) (y : Int32), ¬ y = 0 → W p l e R s m args below meth c H locs cells slots Q (F0 m nx lsC (.int (g x y) :: rest)) → W p l e R s m args below meth c H locs cells slots Q (F0 m pc lsC (.int y :: .int x :: rest))) (k : xwo E rc rn d Q0 (xiiD g nx ls st h)) : xG p l e R s m args below meth c Q E ad cA D cl A r0 nL mc ms fin finS (pc, ls, st, h) := by
  unfold xiiD at k
  split at k
  · rename_i y x r
    intro cells slots ws H locs lsC stC h1 h2 hr
    obtain ⟨hW, hP, hD, hS, hl, hst⟩ := hr
    obtain ⟨_, _, rfl, rfl, _, _, rfl, rfl, hst⟩ := hst
    exact row _ _ _ _ _ _ _ _ k.1 (hN _ k.2 cells slots ws H locs lsC _ h1 h2 ⟨hW, hP, hD, hS, hl, ⟨_, _, rfl, rfl, hst⟩⟩)
  · exact k.1.elim
theorem so_li (hN : ∀ f, rn f Q0 → xG p l e R s m args below meth c Q E ad cA D cl A r0 nL mc ms fin finS f) {g : Int64 → Int32 → Int64} (row : ∀ (H : Heap) (locs : List Loc) (cells slots : Nat) (lsC : Array Slot) (rest : List Value) (x : Int64) (y : Int32), W p l e R s m args below meth c H locs cells slots Q (F0 m nx lsC (.long (g x y) :: rest)) → W p l e R s m args below meth c H locs cells slots Q (F0 m pc lsC (.int y :: .long x :: rest))) (k : xwo E rc rn d Q0 (xli g nx ls st h)) : xG p l e R s m args below meth c Q E ad cA D cl A r0 nL mc ms fin finS (pc, ls, st, h) := by
  unfold xli at k
  split at k
  · rename_i y x r
    intro cells slots ws H locs lsC stC h1 h2 hr
    obtain ⟨hW, hP, hD, hS, hl, hst⟩ := hr
    obtain ⟨_, _, rfl, rfl, _, _, rfl, rfl, hst⟩ := hst
    exact row _ _ _ _ _ _ _ _ (hN _ k cells slots ws H locs lsC _ h1 h2 ⟨hW, hP, hD, hS, hl, ⟨_, _, rfl, rfl, hst⟩⟩)
  · exact k.1.elim
theorem so_ff (hN : ∀ f, rn f Q0 → xG p l e R s m args below meth c Q E ad cA D cl A r0 nL mc ms fin finS f) {g : UInt32 → UInt32 → UInt32} (row : ∀ (H : Heap) (locs : List Loc) (cells slots : Nat) (lsC : Array Slot) (rest : List Value) (x : UInt32) (y : UInt32), vf_n32 (g x y) → W p l e R s m args below meth c H locs cells slots Q (F0 m nx lsC (.float (g x y) :: rest)) → W p l e R s m args below meth c H locs cells slots Q (F0 m pc lsC (.float y :: .float x :: rest))) (k : xwo E rc rn d Q0 (xff g nx ls st h)) : xG p l e R s m args below meth c Q E ad cA D cl A r0 nL mc ms fin finS (pc, ls, st, h) := by
  unfold xff at k
  split at k
  · rename_i y x r
    intro cells slots ws H locs lsC stC h1 h2 hr
    obtain ⟨hW, hP, hD, hS, hl, hst⟩ := hr
    obtain ⟨_, _, rfl, rfl, _, _, rfl, rfl, hst⟩ := hst
    exact row _ _ _ _ _ _ _ _ k.1 (hN _ k.2 cells slots ws H locs lsC _ h1 h2 ⟨hW, hP, hD, hS, hl, ⟨_, _, rfl, rfl, hst⟩⟩)
  · exact k.1.elim
theorem so_i (hN : ∀ f, rn f Q0 → xG p l e R s m args below meth c Q E ad cA D cl A r0 nL mc ms fin finS f) {g : Int32 → Value} (hg : ∀ x (r : Nat → Option Nat), xv r (g x) (g x)) (row : ∀ (H : Heap) (locs : List Loc) (cells slots : Nat) (lsC : Array Slot) (rest : List Value) (x : Int32), W p l e R s m args below meth c H locs cells slots Q (F0 m nx lsC (g x :: rest)) → W p l e R s m args below meth c H locs cells slots Q (F0 m pc lsC (.int x :: rest))) (k : xwo E rc rn d Q0 (xi g nx ls st h)) : xG p l e R s m args below meth c Q E ad cA D cl A r0 nL mc ms fin finS (pc, ls, st, h) := by
  unfold xi at k
  split at k
  · rename_i x r
    intro cells slots ws H locs lsC stC h1 h2 hr
    obtain ⟨hW, hP, hD, hS, hl, hst⟩ := hr
    obtain ⟨_, _, rfl, rfl, hst⟩ := hst
    exact row _ _ _ _ _ _ _ (hN _ k cells slots ws H locs lsC _ h1 h2 ⟨hW, hP, hD, hS, hl, ⟨_, _, rfl, hg _ _, hst⟩⟩)
  · exact k.1.elim
theorem so_ll (hN : ∀ f, rn f Q0 → xG p l e R s m args below meth c Q E ad cA D cl A r0 nL mc ms fin finS f) {g : Int64 → Int64 → Value} (hg : ∀ x y (r : Nat → Option Nat), xv r (g x y) (g x y)) (row : ∀ (H : Heap) (locs : List Loc) (cells slots : Nat) (lsC : Array Slot) (rest : List Value) (x : Int64) (y : Int64), W p l e R s m args below meth c H locs cells slots Q (F0 m nx lsC (g x y :: rest)) → W p l e R s m args below meth c H locs cells slots Q (F0 m pc lsC (.long y :: .long x :: rest))) (k : xwo E rc rn d Q0 (xll g nx ls st h)) : xG p l e R s m args below meth c Q E ad cA D cl A r0 nL mc ms fin finS (pc, ls, st, h) := by
  unfold xll at k
  split at k
  · rename_i y x r
    intro cells slots ws H locs lsC stC h1 h2 hr
    obtain ⟨hW, hP, hD, hS, hl, hst⟩ := hr
    obtain ⟨_, _, rfl, rfl, _, _, rfl, rfl, hst⟩ := hst
    exact row _ _ _ _ _ _ _ _ (hN _ k cells slots ws H locs lsC _ h1 h2 ⟨hW, hP, hD, hS, hl, ⟨_, _, rfl, hg _ _ _, hst⟩⟩)
  · exact k.1.elim
theorem so_l (hN : ∀ f, rn f Q0 → xG p l e R s m args below meth c Q E ad cA D cl A r0 nL mc ms fin finS f) {g : Int64 → Value} (hg : ∀ x (r : Nat → Option Nat), xv r (g x) (g x)) (row : ∀ (H : Heap) (locs : List Loc) (cells slots : Nat) (lsC : Array Slot) (rest : List Value) (x : Int64), W p l e R s m args below meth c H locs cells slots Q (F0 m nx lsC (g x :: rest)) → W p l e R s m args below meth c H locs cells slots Q (F0 m pc lsC (.long x :: rest))) (k : xwo E rc rn d Q0 (xl g nx ls st h)) : xG p l e R s m args below meth c Q E ad cA D cl A r0 nL mc ms fin finS (pc, ls, st, h) := by
  unfold xl at k
  split at k
  · rename_i x r
    intro cells slots ws H locs lsC stC h1 h2 hr
    obtain ⟨hW, hP, hD, hS, hl, hst⟩ := hr
    obtain ⟨_, _, rfl, rfl, hst⟩ := hst
    exact row _ _ _ _ _ _ _ (hN _ k cells slots ws H locs lsC _ h1 h2 ⟨hW, hP, hD, hS, hl, ⟨_, _, rfl, hg _ _, hst⟩⟩)
  · exact k.1.elim
theorem so_f (hN : ∀ f, rn f Q0 → xG p l e R s m args below meth c Q E ad cA D cl A r0 nL mc ms fin finS f) {g : UInt32 → Value} (hg : ∀ x (r : Nat → Option Nat), xv r (g x) (g x)) (row : ∀ (H : Heap) (locs : List Loc) (cells slots : Nat) (lsC : Array Slot) (rest : List Value) (x : UInt32), W p l e R s m args below meth c H locs cells slots Q (F0 m nx lsC (g x :: rest)) → W p l e R s m args below meth c H locs cells slots Q (F0 m pc lsC (.float x :: rest))) (k : xwo E rc rn d Q0 (xf g nx ls st h)) : xG p l e R s m args below meth c Q E ad cA D cl A r0 nL mc ms fin finS (pc, ls, st, h) := by
  unfold xf at k
  split at k
  · rename_i x r
    intro cells slots ws H locs lsC stC h1 h2 hr
    obtain ⟨hW, hP, hD, hS, hl, hst⟩ := hr
    obtain ⟨_, _, rfl, rfl, hst⟩ := hst
    exact row _ _ _ _ _ _ _ (hN _ k cells slots ws H locs lsC _ h1 h2 ⟨hW, hP, hD, hS, hl, ⟨_, _, rfl, hg _ _, hst⟩⟩)
  · exact k.1.elim
theorem so_fc (hN : ∀ f, rn f Q0 → xG p l e R s m args below meth c Q E ad cA D cl A r0 nL mc ms fin finS f) {op : CmpOp} (row : ∀ (H : Heap) (locs : List Loc) (cells slots : Nat) (lsC : Array Slot) (rest : List Value) (x y : UInt32), W p l e R s m args below meth c H locs cells slots Q (F0 m nx lsC (.int (Op.cmpValue (FP.fcmp x y) op) :: rest)) → W p l e R s m args below meth c H locs cells slots Q (F0 m pc lsC (.float y :: .float x :: rest))) (k : xwo E rc rn d Q0 (xfc op nx ls st h)) : xG p l e R s m args below meth c Q E ad cA D cl A r0 nL mc ms fin finS (pc, ls, st, h) := by
  unfold xfc at k
  split at k
  · rename_i y x r
    intro cells slots ws H locs lsC stC h1 h2 hr
    obtain ⟨hW, hP, hD, hS, hl, hst⟩ := hr
    obtain ⟨_, _, rfl, rfl, _, _, rfl, rfl, hst⟩ := hst
    exact row _ _ _ _ _ _ _ _ (hN _ k cells slots ws H locs lsC _ h1 h2 ⟨hW, hP, hD, hS, hl, ⟨_, _, rfl, rfl, hst⟩⟩)
  · exact k.1.elim
theorem so_push (hN : ∀ f, rn f Q0 → xG p l e R s m args below meth c Q E ad cA D cl A r0 nL mc ms fin finS f) {v : Value} (hv : ∀ ws : va_W, ∃ w, xv (xa ad ws) v w ∧ ∀ (H : Heap) (locs : List Loc) (cells slots : Nat) (lsC : Array Slot) (rest : List Value), W p l e R s m args below meth c H locs cells slots Q (F0 m nx lsC (w :: rest)) → W p l e R s m args below meth c H locs cells slots Q (F0 m pc lsC rest)) (k : xwo E rc rn d Q0 (.inl (nx, ls, v :: st, h))) : xG p l e R s m args below meth c Q E ad cA D cl A r0 nL mc ms fin finS (pc, ls, st, h) := by
  intro cells slots ws H locs lsC stC h1 h2 hr
  obtain ⟨hW, hP, hD, hS, hl, hst⟩ := hr
  obtain ⟨w, hv1, row⟩ := hv ws
  exact row _ _ _ _ _ _ (hN _ k cells slots ws H locs lsC _ h1 h2 ⟨hW, hP, hD, hS, hl, ⟨_, _, rfl, hv1, hst⟩⟩)
theorem so_loi (hN : ∀ f, rn f Q0 → xG p l e R s m args below meth c Q E ad cA D cl A r0 nL mc ms fin finS f) {i : Nat} (row : ∀ (H : Heap) (locs : List Loc) (cells slots : Nat) (lsC : Array Slot) (rest : List Value) (x : Int32), lsC[i]? = some (.val (.int x)) → W p l e R s m args below meth c H locs cells slots Q (F0 m nx lsC (.int x :: rest)) → W p l e R s m args below meth c H locs cells slots Q (F0 m pc lsC rest)) (k : xwo E rc rn d Q0 (xloi i nx ls st h)) : xG p l e R s m args below meth c Q E ad cA D cl A r0 nL mc ms fin finS (pc, ls, st, h) := by
  unfold xloi at k
  split at k
  · rename_i x hx
    intro cells slots ws H locs lsC stC h1 h2 hr
    obtain ⟨hW, hP, hD, hS, hl, hst⟩ := hr
    obtain ⟨_, e1, rfl⟩ := hl.2.2.2 i _ hx
    exact row _ _ _ _ _ _ _ e1 (hN _ k cells slots ws H locs lsC _ h1 h2 ⟨hW, hP, hD, hS, hl, ⟨_, _, rfl, rfl, hst⟩⟩)
  · exact k.1.elim
theorem so_lol (hN : ∀ f, rn f Q0 → xG p l e R s m args below meth c Q E ad cA D cl A r0 nL mc ms fin finS f) {i : Nat} (row : ∀ (H : Heap) (locs : List Loc) (cells slots : Nat) (lsC : Array Slot) (rest : List Value) (x : Int64), lsC[i]? = some (.val (.long x)) → W p l e R s m args below meth c H locs cells slots Q (F0 m nx lsC (.long x :: rest)) → W p l e R s m args below meth c H locs cells slots Q (F0 m pc lsC rest)) (k : xwo E rc rn d Q0 (xlol i nx ls st h)) : xG p l e R s m args below meth c Q E ad cA D cl A r0 nL mc ms fin finS (pc, ls, st, h) := by
  unfold xlol at k
  split at k
  · rename_i x hx
    intro cells slots ws H locs lsC stC h1 h2 hr
    obtain ⟨hW, hP, hD, hS, hl, hst⟩ := hr
    obtain ⟨_, e1, rfl⟩ := hl.2.2.2 i _ hx
    exact row _ _ _ _ _ _ _ e1 (hN _ k cells slots ws H locs lsC _ h1 h2 ⟨hW, hP, hD, hS, hl, ⟨_, _, rfl, rfl, hst⟩⟩)
  · exact k.1.elim
theorem so_lof (hN : ∀ f, rn f Q0 → xG p l e R s m args below meth c Q E ad cA D cl A r0 nL mc ms fin finS f) {i : Nat} (row : ∀ (H : Heap) (locs : List Loc) (cells slots : Nat) (lsC : Array Slot) (rest : List Value) (x : UInt32), lsC[i]? = some (.val (.float x)) → W p l e R s m args below meth c H locs cells slots Q (F0 m nx lsC (.float x :: rest)) → W p l e R s m args below meth c H locs cells slots Q (F0 m pc lsC rest)) (k : xwo E rc rn d Q0 (xlof i nx ls st h)) : xG p l e R s m args below meth c Q E ad cA D cl A r0 nL mc ms fin finS (pc, ls, st, h) := by
  unfold xlof at k
  split at k
  · rename_i x hx
    intro cells slots ws H locs lsC stC h1 h2 hr
    obtain ⟨hW, hP, hD, hS, hl, hst⟩ := hr
    obtain ⟨_, e1, rfl⟩ := hl.2.2.2 i _ hx
    exact row _ _ _ _ _ _ _ e1 (hN _ k cells slots ws H locs lsC _ h1 h2 ⟨hW, hP, hD, hS, hl, ⟨_, _, rfl, rfl, hst⟩⟩)
  · exact k.1.elim
theorem so_loa (hN : ∀ f, rn f Q0 → xG p l e R s m args below meth c Q E ad cA D cl A r0 nL mc ms fin finS f) {i : Nat} (row : ∀ (H : Heap) (locs : List Loc) (cells slots : Nat) (lsC : Array Slot) (rest : List Value) (x : Nat), lsC[i]? = some (.val (.ref x)) → W p l e R s m args below meth c H locs cells slots Q (F0 m nx lsC (.ref x :: rest)) → W p l e R s m args below meth c H locs cells slots Q (F0 m pc lsC rest)) (row2 : ∀ (H : Heap) (locs : List Loc) (cells slots : Nat) (lsC : Array Slot) (rest : List Value), lsC[i]? = some (.val .null) → W p l e R s m args below meth c H locs cells slots Q (F0 m nx lsC (.null :: rest)) → W p l e R s m args below meth c H locs cells slots Q (F0 m pc lsC rest)) (k : xwo E rc rn d Q0 (xloa i nx ls st h)) : xG p l e R s m args below meth c Q E ad cA D cl A r0 nL mc ms fin finS (pc, ls, st, h) := by
  unfold xloa at k
  split at k
  · rename_i x hx
    intro cells slots ws H locs lsC stC h1 h2 hr
    obtain ⟨hW, hP, hD, hS, hl, hst⟩ := hr
    obtain ⟨_, e1, a, e2, rfl⟩ := hl.2.2.2 i _ hx
    exact row _ _ _ _ _ _ _ e1 (hN _ k cells slots ws H locs lsC _ h1 h2 ⟨hW, hP, hD, hS, hl, ⟨_, _, rfl, ⟨a, e2, rfl⟩, hst⟩⟩)
  · rename_i hx
    intro cells slots ws H locs lsC stC h1 h2 hr
    obtain ⟨hW, hP, hD, hS, hl, hst⟩ := hr
    obtain ⟨_, e1, rfl⟩ := hl.2.2.2 i _ hx
    exact row2 _ _ _ _ _ _ e1 (hN _ k cells slots ws H locs lsC _ h1 h2 ⟨hW, hP, hD, hS, hl, ⟨_, _, rfl, rfl, hst⟩⟩)
  · exact k.1.elim
theorem so_sti (hN : ∀ f, rn f Q0 → xG p l e R s m args below meth c Q E ad cA D cl A r0 nL mc ms fin finS f) {i : Nat} (row : ∀ (H : Heap) (locs : List Loc) (cells slots : Nat) (lsC : Array Slot) (rest : List Value) (x : Int32), lv_has lsC nL (xall lsC) → i < nL → (∀ ls2 : Array Slot, lv_has ls2 nL ((i, Value.int x) :: (xall lsC).filter (fun q => !(q.1 == i) && !(q.1 + 1 == i && q.2.category == 2))) → W p l e R s m args below meth c H locs cells slots Q (F0 m nx ls2 rest)) → W p l e R s m args below meth c H locs cells slots Q (F0 m pc lsC (.int x :: rest))) (k : xwo E rc rn d Q0 (xsti i nx ls st h)) : xG p l e R s m args below meth c Q E ad cA D cl A r0 nL mc ms fin finS (pc, ls, st, h) := by
  unfold xsti at k
  split at k
  · rename_i x r
    split at k
    · rename_i l2 hp
      intro cells slots ws H locs lsC stC h1 h2 hr
      obtain ⟨hW, hP, hD, hS, hl, hst⟩ := hr
      obtain ⟨_, _, rfl, rfl, hst⟩ := hst
      refine row _ _ _ _ _ _ _ (xls_has hl) (by have := xput_lt hp; have h5 : ls.length = nL := hl.2.1; omega) (fun ls2 h9 => ?_)
      exact hN _ k cells slots ws H locs ls2 _ h1 h2 ⟨hW, hP, hD, hS, (xls_put hl hp rfl h9).1, hst⟩
    · exact k.1.elim
  · exact k.1.elim
theorem so_stf (hN : ∀ f, rn f Q0 → xG p l e R s m args below meth c Q E ad cA D cl A r0 nL mc ms fin finS f) {i : Nat} (row : ∀ (H : Heap) (locs : List Loc) (cells slots : Nat) (lsC : Array Slot) (rest : List Value) (x : UInt32), lv_has lsC nL (xall lsC) → i < nL → (∀ ls2 : Array Slot, lv_has ls2 nL ((i, Value.float x) :: (xall lsC).filter (fun q => !(q.1 == i) && !(q.1 + 1 == i && q.2.category == 2))) → W p l e R s m args below meth c H locs cells slots Q (F0 m nx ls2 rest)) → W p l e R s m args below meth c H locs cells slots Q (F0 m pc lsC (.float x :: rest))) (k : xwo E rc rn d Q0 (xstf i nx ls st h)) : xG p l e R s m args below meth c Q E ad cA D cl A r0 nL mc ms fin finS (pc, ls, st, h) := by
  unfold xstf at k
  split at k
  · rename_i x r
    split at k
    · rename_i l2 hp
      intro cells slots ws H locs lsC stC h1 h2 hr
      obtain ⟨hW, hP, hD, hS, hl, hst⟩ := hr
      obtain ⟨_, _, rfl, rfl, hst⟩ := hst
      refine row _ _ _ _ _ _ _ (xls_has hl) (by have := xput_lt hp; have h5 : ls.length = nL := hl.2.1; omega) (fun ls2 h9 => ?_)
      exact hN _ k cells slots ws H locs ls2 _ h1 h2 ⟨hW, hP, hD, hS, (xls_put hl hp rfl h9).1, hst⟩
    · exact k.1.elim
  · exact k.1.elim
theorem so_stl (hN : ∀ f, rn f Q0 → xG p l e R s m args below meth c Q E ad cA D cl A r0 nL mc ms fin finS f) {i : Nat} (row : ∀ (H : Heap) (locs : List Loc) (cells slots : Nat) (lsC : Array Slot) (rest : List Value) (x : Int64), lv_has lsC nL (xall lsC) → i + 1 < nL → (∀ ls2 : Array Slot, lv_has ls2 nL ((i, Value.long x) :: (xall lsC).filter (fun q => !(q.1 == i) && (!(q.1 == i + 1) && !(q.1 + 1 == i && q.2.category == 2)))) → W p l e R s m args below meth c H locs cells slots Q (F0 m nx ls2 rest)) → W p l e R s m args below meth c H locs cells slots Q (F0 m pc lsC (.long x :: rest))) (k : xwo E rc rn d Q0 (xstl i nx ls st h)) : xG p l e R s m args below meth c Q E ad cA D cl A r0 nL mc ms fin finS (pc, ls, st, h) := by
  unfold xstl at k
  split at k
  · rename_i x r
    split at k
    · rename_i l2 hp
      intro cells slots ws H locs lsC stC h1 h2 hr
      obtain ⟨hW, hP, hD, hS, hl, hst⟩ := hr
      obtain ⟨_, _, rfl, rfl, hst⟩ := hst
      refine row _ _ _ _ _ _ _ (xls_has hl) (by have := xput2_lt hp; have h5 : ls.length = nL := hl.2.1; omega) (fun ls2 h9 => ?_)
      exact hN _ k cells slots ws H locs ls2 _ h1 h2 ⟨hW, hP, hD, hS, (xls_put2 hl hp rfl h9), hst⟩
    · exact k.1.elim
  · exact k.1.elim
theorem so_sta (hN : ∀ f, rn f Q0 → xG p l e R s m args below meth c Q E ad cA D cl A r0 nL mc ms fin finS f) {i : Nat} (row : ∀ (H : Heap) (locs : List Loc) (cells slots : Nat) (lsC : Array Slot) (rest : List Value) (x : Nat), lv_has lsC nL (xall lsC) → i < nL → (∀ ls2 : Array Slot, lv_has ls2 nL ((i, Value.ref x) :: (xall lsC).filter (fun q => !(q.1 == i) && !(q.1 + 1 == i && q.2.category == 2))) → W p l e R s m args below meth c H locs cells slots Q (F0 m nx ls2 rest)) → W p l e R s m args below meth c H locs cells slots Q (F0 m pc lsC (.ref x :: rest))) (row2 : ∀ (H : Heap) (locs : List Loc) (cells slots : Nat) (lsC : Array Slot) (rest : List Value), lv_has lsC nL (xall lsC) → i < nL → (∀ ls2 : Array Slot, lv_has ls2 nL ((i, Value.null) :: (xall lsC).filter (fun q => !(q.1 == i) && !(q.1 + 1 == i && q.2.category == 2))) → W p l e R s m args below meth c H locs cells slots Q (F0 m nx ls2 rest)) → W p l e R s m args below meth c H locs cells slots Q (F0 m pc lsC (.null :: rest))) (k : xwo E rc rn d Q0 (xsta i nx ls st h)) : xG p l e R s m args below meth c Q E ad cA D cl A r0 nL mc ms fin finS (pc, ls, st, h) := by
  unfold xsta at k
  split at k
  · rename_i x r
    split at k
    · rename_i l2 hp
      intro cells slots ws H locs lsC stC h1 h2 hr
      obtain ⟨hW, hP, hD, hS, hl, hst⟩ := hr
      obtain ⟨_, _, rfl, ⟨a, e2, rfl⟩, hst⟩ := hst
      refine row _ _ _ _ _ _ _ (xls_has hl) (by have := xput_lt hp; have h5 : ls.length = nL := hl.2.1; omega) (fun ls2 h9 => ?_)
      exact hN _ k cells slots ws H locs ls2 _ h1 h2 ⟨hW, hP, hD, hS, (xls_put hl hp ⟨a, e2, rfl⟩ h9).1, hst⟩
    · exact k.1.elim
  · rename_i r
    split at k
    · rename_i l2 hp
      intro cells slots ws H locs lsC stC h1 h2 hr
      obtain ⟨hW, hP, hD, hS, hl, hst⟩ := hr
      obtain ⟨_, _, rfl, rfl, hst⟩ := hst
      refine row2 _ _ _ _ _ _ (xls_has hl) (by have := xput_lt hp; have h5 : ls.length = nL := hl.2.1; omega) (fun ls2 h9 => ?_)
      exact hN _ k cells slots ws H locs ls2 _ h1 h2 ⟨hW, hP, hD, hS, (xls_put hl hp rfl h9).1, hst⟩
    · exact k.1.elim
  · exact k.1.elim
theorem so_inc (hN : ∀ f, rn f Q0 → xG p l e R s m args below meth c Q E ad cA D cl A r0 nL mc ms fin finS f) {i : Nat} {z : Int32} (row : ∀ (H : Heap) (locs : List Loc) (cells slots : Nat) (lsC : Array Slot) (rest : List Value) (x : Int32), lv_has lsC nL (xall lsC) → lsC[i]? = some (.val (.int x)) → i < nL → (∀ ls2 : Array Slot, lv_has ls2 nL ((i, Value.int (x + z)) :: (xall lsC).filter (fun q => !(q.1 == i) && !(q.1 + 1 == i && q.2.category == 2))) → W p l e R s m args below meth c H locs cells slots Q (F0 m nx ls2 rest)) → W p l e R s m args below meth c H locs cells slots Q (F0 m pc lsC rest)) (k : xwo E rc rn d Q0 (xinc i (.int z) nx ls st h)) : xG p l e R s m args below meth c Q E ad cA D cl A r0 nL mc ms fin finS (pc, ls, st, h) := by
  unfold xinc at k
  split at k
  · rename_i x z2 hx hz
    cases hz
    split at k
    · rename_i l2 hp
      intro cells slots ws H locs lsC stC h1 h2 hr
      obtain ⟨hW, hP, hD, hS, hl, hst⟩ := hr
      obtain ⟨_, e1, rfl⟩ := hl.2.2.2 i _ hx
      refine row _ _ _ _ _ _ _ (xls_has hl) e1 (by have := xput_lt hp; have h5 : ls.length = nL := hl.2.1; omega) (fun ls2 h9 => ?_)
      exact hN _ k cells slots ws H locs ls2 _ h1 h2 ⟨hW, hP, hD, hS, (xls_put hl hp rfl h9).1, hst⟩
    · exact k.1.elim
  · exact k.1.elim
theorem so_b1 (hN : ∀ f, rn f Q0 → xG p l e R s m args below meth c Q E ad cA D cl A r0 nL mc ms fin finS f) {g : Int32 → Prop} {t : Nat} (row : ∀ (H : Heap) (locs : List Loc) (cells slots : Nat) (lsC : Array Slot) (rest : List Value) (x : Int32), (g x → W p l e R s m args below meth c H locs cells slots Q (F0 m t lsC rest)) → (¬ g x → W p l e R s m args below meth c H locs cells slots Q (F0 m nx lsC rest)) → W p l e R s m args below meth c H locs cells slots Q (F0 m pc lsC (.int x :: rest))) (k : xwo E rc rn d Q0 (xb1 g nx [t] ls st h)) : xG p l e R s m args below meth c Q E ad cA D cl A r0 nL mc ms fin finS (pc, ls, st, h) := by
  replace k : xwo E rc rn d Q0 (xb1t g nx t ls st h) := k
  unfold xb1t at k
  split at k
  · rename_i x r
    intro cells slots ws H locs lsC stC h1 h2 hr
    obtain ⟨hW, hP, hD, hS, hl, hst⟩ := hr
    obtain ⟨_, _, rfl, rfl, hst⟩ := hst
    exact row _ _ _ _ _ _ _ (fun c => hN _ (k.1 c) cells slots ws H locs lsC _ h1 h2 ⟨hW, hP, hD, hS, hl, hst⟩) (fun c => hN _ (k.2 c) cells slots ws H locs lsC _ h1 h2 ⟨hW, hP, hD, hS, hl, hst⟩)
  · exact k.1.elim
theorem so_b2 (hN : ∀ f, rn f Q0 → xG p l e R s m args below meth c Q E ad cA D cl A r0 nL mc ms fin finS f) {g : Int32 → Int32 → Prop} {t : Nat} (row : ∀ (H : Heap) (locs : List Loc) (cells slots : Nat) (lsC : Array Slot) (rest : List Value) (x y : Int32), (g x y → W p l e R s m args below meth c H locs cells slots Q (F0 m t lsC rest)) → (¬ g x y → W p l e R s m args below meth c H locs cells slots Q (F0 m nx lsC rest)) → W p l e R s m args below meth c H locs cells slots Q (F0 m pc lsC (.int y :: .int x :: rest))) (k : xwo E rc rn d Q0 (xb2 g nx [t] ls st h)) : xG p l e R s m args below meth c Q E ad cA D cl A r0 nL mc ms fin finS (pc, ls, st, h) := by
  replace k : xwo E rc rn d Q0 (xb2t g nx t ls st h) := k
  unfold xb2t at k
  split at k
  · rename_i y x r
    intro cells slots ws H locs lsC stC h1 h2 hr
    obtain ⟨hW, hP, hD, hS, hl, hst⟩ := hr
    obtain ⟨_, _, rfl, rfl, _, _, rfl, rfl, hst⟩ := hst
    exact row _ _ _ _ _ _ _ _ (fun c => hN _ (k.1 c) cells slots ws H locs lsC _ h1 h2 ⟨hW, hP, hD, hS, hl, hst⟩) (fun c => hN _ (k.2 c) cells slots ws H locs lsC _ h1 h2 ⟨hW, hP, hD, hS, hl, hst⟩)
  · exact k.1.elim
theorem so_nul (hN : ∀ f, rn f Q0 → xG p l e R s m args below meth c Q E ad cA D cl A r0 nL mc ms fin finS f) {a b : Nat} (row : ∀ (H : Heap) (locs : List Loc) (cells slots : Nat) (lsC : Array Slot) (rest : List Value), W p l e R s m args below meth c H locs cells slots Q (F0 m a lsC rest) → W p l e R s m args below meth c H locs cells slots Q (F0 m pc lsC (.null :: rest))) (row2 : ∀ (H : Heap) (locs : List Loc) (cells slots : Nat) (lsC : Array Slot) (rest : List Value) (x : Nat), W p l e R s m args below meth c H locs cells slots Q (F0 m b lsC rest) → W p l e R s m args below meth c H locs cells slots Q (F0 m pc lsC (.ref x :: rest))) (k : xwo E rc rn d Q0 (xnul a b ls st h)) : xG p l e R s m args below meth c Q E ad cA D cl A r0 nL mc ms fin finS (pc, ls, st, h) := by
  unfold xnul at k
  split at k
  · rename_i r
    intro cells slots ws H locs lsC stC h1 h2 hr
    obtain ⟨hW, hP, hD, hS, hl, hst⟩ := hr
    obtain ⟨_, _, rfl, rfl, hst⟩ := hst
    exact row _ _ _ _ _ _ (hN _ k cells slots ws H locs lsC _ h1 h2 ⟨hW, hP, hD, hS, hl, hst⟩)
  · rename_i x r
    intro cells slots ws H locs lsC stC h1 h2 hr
    obtain ⟨hW, hP, hD, hS, hl, hst⟩ := hr
    obtain ⟨_, _, rfl, ⟨y, e2, rfl⟩, hst⟩ := hst
    exact row2 _ _ _ _ _ _ _ (hN _ k cells slots ws H locs lsC _ h1 h2 ⟨hW, hP, hD, hS, hl, hst⟩)
  · exact k.1.elim
theorem so_goto (hN : ∀ f, rn f Q0 → xG p l e R s m args below meth c Q E ad cA D cl A r0 nL mc ms fin finS f) {t : Nat} (row : ∀ (H : Heap) (locs : List Loc) (cells slots : Nat) (lsC : Array Slot) (rest : List Value), W p l e R s m args below meth c H locs cells slots Q (F0 m t lsC rest) → W p l e R s m args below meth c H locs cells slots Q (F0 m pc lsC rest)) (k : xwo E rc rn d Q0 (.inl (t, ls, st, h))) : xG p l e R s m args below meth c Q E ad cA D cl A r0 nL mc ms fin finS (pc, ls, st, h) := by
  intro cells slots ws H locs lsC stC h1 h2 hr
  exact row _ _ _ _ _ _ (hN _ k cells slots ws H locs lsC _ h1 h2 hr)
theorem so_dup (hN : ∀ f, rn f Q0 → xG p l e R s m args below meth c Q E ad cA D cl A r0 nL mc ms fin finS f) (row : ∀ (H : Heap) (locs : List Loc) (cells slots : Nat) (lsC : Array Slot) (rest : List Value) (v : Value), v.category = 1 → W p l e R s m args below meth c H locs cells slots Q (F0 m nx lsC (v :: v :: rest)) → W p l e R s m args below meth c H locs cells slots Q (F0 m pc lsC (v :: rest))) (k : xwo E rc rn d Q0 (xdup nx ls st h)) : xG p l e R s m args below meth c Q E ad cA D cl A r0 nL mc ms fin finS (pc, ls, st, h) := by
  unfold xdup at k
  split at k
  · rename_i v r
    cases hb : (Nat.beq v.category 1) with
    | false => rw [hb] at k; exact k.1.elim
    | true =>
      rw [hb] at k
      have c1 := Nat.eq_of_beq_eq_true hb
      intro cells slots ws H locs lsC stC h1 h2 hr
      obtain ⟨hW, hP, hD, hS, hl, hst⟩ := hr
      obtain ⟨u0, _, rfl, hu0, hst⟩ := hst
      exact row _ _ _ _ _ _ _ ((xv_cat hu0).trans c1) (hN _ k cells slots ws H locs lsC _ h1 h2 ⟨hW, hP, hD, hS, hl, ⟨_, _, rfl, hu0, ⟨_, _, rfl, hu0, hst⟩⟩⟩)
  · exact k.1.elim
theorem so_pop (hN : ∀ f, rn f Q0 → xG p l e R s m args below meth c Q E ad cA D cl A r0 nL mc ms fin finS f) (row : ∀ (H : Heap) (locs : List Loc) (cells slots : Nat) (lsC : Array Slot) (rest : List Value) (v : Value), v.category = 1 → W p l e R s m args below meth c H locs cells slots Q (F0 m nx lsC rest) → W p l e R s m args below meth c H locs cells slots Q (F0 m pc lsC (v :: rest))) (k : xwo E rc rn d Q0 (xpo nx ls st h)) : xG p l e R s m args below meth c Q E ad cA D cl A r0 nL mc ms fin finS (pc, ls, st, h) := by
  unfold xpo at k
  split at k
  · rename_i v r
    cases hb : Nat.beq v.category 1 with
    | false => rw [hb] at k; exact k.1.elim
    | true =>
      rw [hb] at k
      have c1 := Nat.eq_of_beq_eq_true hb
      intro cells slots ws H locs lsC stC h1 h2 hr
      obtain ⟨hW, hP, hD, hS, hl, hst⟩ := hr
      obtain ⟨u0, _, rfl, hu0, hst⟩ := hst
      exact row _ _ _ _ _ _ _ ((xv_cat hu0).trans c1) (hN _ k cells slots ws H locs lsC _ h1 h2 ⟨hW, hP, hD, hS, hl, hst⟩)
  · exact k.1.elim
theorem so_dx1 (hN : ∀ f, rn f Q0 → xG p l e R s m args below meth c Q E ad cA D cl A r0 nL mc ms fin finS f) (row : ∀ (H : Heap) (locs : List Loc) (cells slots : Nat) (lsC : Array Slot) (rest : List Value) (v w : Value), v.category = 1 → w.category = 1 → W p l e R s m args below meth c H locs cells slots Q (F0 m nx lsC (v :: w :: v :: rest)) → W p l e R s m args below meth c H locs cells slots Q (F0 m pc lsC (v :: w :: rest))) (k : xwo E rc rn d Q0 (xdx1 nx ls st h)) : xG p l e R s m args below meth c Q E ad cA D cl A r0 nL mc ms fin finS (pc, ls, st, h) := by
  unfold xdx1 at k
  split at k
  · rename_i v w r
    cases hb : (Nat.beq v.category 1 && Nat.beq w.category 1) with
    | false => rw [hb] at k; exact k.1.elim
    | true =>
      rw [hb] at k
      rw [Bool.and_eq_true] at hb
      have c1 := Nat.eq_of_beq_eq_true hb.1
      have c2 := Nat.eq_of_beq_eq_true hb.2
      intro cells slots ws H locs lsC stC h1 h2 hr
      obtain ⟨hW, hP, hD, hS, hl, hst⟩ := hr
      obtain ⟨u0, _, rfl, hu0, u1, _, rfl, hu1, hst⟩ := hst
      exact row _ _ _ _ _ _ _ _ ((xv_cat hu0).trans c1) ((xv_cat hu1).trans c2) (hN _ k cells slots ws H locs lsC _ h1 h2 ⟨hW, hP, hD, hS, hl, ⟨_, _, rfl, hu0, ⟨_, _, rfl, hu1, ⟨_, _, rfl, hu0, hst⟩⟩⟩⟩)
  · exact k.1.elim
theorem so_dx2 (hN : ∀ f, rn f Q0 → xG p l e R s m args below meth c Q E ad cA D cl A r0 nL mc ms fin finS f) (row : ∀ (H : Heap) (locs : List Loc) (cells slots : Nat) (lsC : Array Slot) (rest : List Value) (v w z : Value), v.category = 1 → w.category = 1 → z.category = 1 → W p l e R s m args below meth c H locs cells slots Q (F0 m nx lsC (v :: w :: z :: v :: rest)) → W p l e R s m args below meth c H locs cells slots Q (F0 m pc lsC (v :: w :: z :: rest))) (k : xwo E rc rn d Q0 (xdx2 nx ls st h)) : xG p l e R s m args below meth c Q E ad cA D cl A r0 nL mc ms fin finS (pc, ls, st, h) := by
  unfold xdx2 at k
  split at k
  · rename_i v w z r
    cases hb : (Nat.beq v.category 1 && Nat.beq w.category 1 && Nat.beq z.category 1) with
    | false => rw [hb] at k; exact k.1.elim
    | true =>
      rw [hb] at k
      rw [Bool.and_eq_true, Bool.and_eq_true] at hb
      have c1 := Nat.eq_of_beq_eq_true hb.1.1
      have c2 := Nat.eq_of_beq_eq_true hb.1.2
      have c3 := Nat.eq_of_beq_eq_true hb.2
      intro cells slots ws H locs lsC stC h1 h2 hr
      obtain ⟨hW, hP, hD, hS, hl, hst⟩ := hr
      obtain ⟨u0, _, rfl, hu0, u1, _, rfl, hu1, u2, _, rfl, hu2, hst⟩ := hst
      exact row _ _ _ _ _ _ _ _ _ ((xv_cat hu0).trans c1) ((xv_cat hu1).trans c2) ((xv_cat hu2).trans c3) (hN _ k cells slots ws H locs lsC _ h1 h2 ⟨hW, hP, hD, hS, hl, ⟨_, _, rfl, hu0, ⟨_, _, rfl, hu1, ⟨_, _, rfl, hu2, ⟨_, _, rfl, hu0, hst⟩⟩⟩⟩⟩)
  · exact k.1.elim
theorem so_d2x1 (hN : ∀ f, rn f Q0 → xG p l e R s m args below meth c Q E ad cA D cl A r0 nL mc ms fin finS f) (row : ∀ (H : Heap) (locs : List Loc) (cells slots : Nat) (lsC : Array Slot) (rest : List Value) (v w : Value), v.category = 2 → w.category = 1 → W p l e R s m args below meth c H locs cells slots Q (F0 m nx lsC (v :: w :: v :: rest)) → W p l e R s m args below meth c H locs cells slots Q (F0 m pc lsC (v :: w :: rest))) (k : xwo E rc rn d Q0 (xd2x1 nx ls st h)) : xG p l e R s m args below meth c Q E ad cA D cl A r0 nL mc ms fin finS (pc, ls, st, h) := by
  unfold xd2x1 at k
  split at k
  · rename_i v w r
    cases hb : (Nat.beq v.category 2 && Nat.beq w.category 1) with
    | false => rw [hb] at k; exact k.1.elim
    | true =>
      rw [hb] at k
      rw [Bool.and_eq_true] at hb
      have c1 := Nat.eq_of_beq_eq_true hb.1
      have c2 := Nat.eq_of_beq_eq_true hb.2
      intro cells slots ws H locs lsC stC h1 h2 hr
      obtain ⟨hW, hP, hD, hS, hl, hst⟩ := hr
      obtain ⟨u0, _, rfl, hu0, u1, _, rfl, hu1, hst⟩ := hst
      exact row _ _ _ _ _ _ _ _ ((xv_cat hu0).trans c1) ((xv_cat hu1).trans c2) (hN _ k cells slots ws H locs lsC _ h1 h2 ⟨hW, hP, hD, hS, hl, ⟨_, _, rfl, hu0, ⟨_, _, rfl, hu1, ⟨_, _, rfl, hu0, hst⟩⟩⟩⟩)
  · exact k.1.elim
theorem so_d2 (hN : ∀ f, rn f Q0 → xG p l e R s m args below meth c Q E ad cA D cl A r0 nL mc ms fin finS f) (row : ∀ (H : Heap) (locs : List Loc) (cells slots : Nat) (lsC : Array Slot) (rest : List Value) (v w : Value), v.category = 1 → w.category = 1 → W p l e R s m args below meth c H locs cells slots Q (F0 m nx lsC (v :: w :: v :: w :: rest)) → W p l e R s m args below meth c H locs cells slots Q (F0 m pc lsC (v :: w :: rest))) (row2 : ∀ (H : Heap) (locs : List Loc) (cells slots : Nat) (lsC : Array Slot) (rest : List Value) (v : Value), v.category = 2 → W p l e R s m args below meth c H locs cells slots Q (F0 m nx lsC (v :: v :: rest)) → W p l e R s m args below meth c H locs cells slots Q (F0 m pc lsC (v :: rest))) (k : xwo E rc rn d Q0 (xd2 nx ls st h)) : xG p l e R s m args below meth c Q E ad cA D cl A r0 nL mc ms fin finS (pc, ls, st, h) := by
  unfold xd2 at k
  split at k
  · rename_i v w r
    intro cells slots ws H locs lsC stC h1 h2 hr
    obtain ⟨hW, hP, hD, hS, hl, hst⟩ := hr
    obtain ⟨u0, _, rfl, hu0, u1, _, rfl, hu1, hst⟩ := hst
    cases hb : (Nat.beq v.category 1 && Nat.beq w.category 1) with
    | true =>
      rw [hb] at k
      rw [Bool.and_eq_true] at hb
      have c1 := Nat.eq_of_beq_eq_true hb.1
      have c2 := Nat.eq_of_beq_eq_true hb.2
      exact row _ _ _ _ _ _ _ _ ((xv_cat hu0).trans c1) ((xv_cat hu1).trans c2) (hN _ k cells slots ws H locs lsC _ h1 h2 ⟨hW, hP, hD, hS, hl, ⟨_, _, rfl, hu0, _, _, rfl, hu1, _, _, rfl, hu0, _, _, rfl, hu1, hst⟩⟩)
    | false =>
      rw [hb] at k
      cases hb2 : Nat.beq v.category 2 with
      | false => rw [hb2] at k; exact k.1.elim
      | true =>
        rw [hb2] at k
        have c1 := Nat.eq_of_beq_eq_true hb2
        exact row2 _ _ _ _ _ _ _ ((xv_cat hu0).trans c1) (hN _ k cells slots ws H locs lsC _ h1 h2 ⟨hW, hP, hD, hS, hl, ⟨_, _, rfl, hu0, _, _, rfl, hu0, _, _, rfl, hu1, hst⟩⟩)
  · rename_i v
    intro cells slots ws H locs lsC stC h1 h2 hr
    obtain ⟨hW, hP, hD, hS, hl, hst⟩ := hr
    obtain ⟨u0, _, rfl, hu0, hst⟩ := hst
    cases hb2 : Nat.beq v.category 2 with
    | false => rw [hb2] at k; exact k.1.elim
    | true =>
      rw [hb2] at k
      have c1 := Nat.eq_of_beq_eq_true hb2
      exact row2 _ _ _ _ _ _ _ ((xv_cat hu0).trans c1) (hN _ k cells slots ws H locs lsC _ h1 h2 ⟨hW, hP, hD, hS, hl, ⟨_, _, rfl, hu0, _, _, rfl, hu0, hst⟩⟩)
  · exact k.1.elim
end XSO
end
section
/-! cells: one instruction on paper is one instruction of the machine -/
theorem x2_row {α : Type} (f : Nat → Nat → α) (a k : Nat) (x : α) {b : Nat} (h : b ≠ a) : x2 f a k x b = f b := by
  funext j
  unfold x2
  have : Nat.beq b a = false := by
    cases hb : Nat.beq b a with
    | false => rfl
    | true => exact absurd (Nat.eq_of_beq_eq_true hb) h
  rw [this]
  rfl
theorem x2_at {α : Type} (f : Nat → Nat → α) (a k : Nat) (x : α) : x2 f a k x a k = x := by
  unfold x2
  rw [Nat.beq_refl, Nat.beq_refl]
  rfl
theorem x2_ne {α : Type} (f : Nat → Nat → α) (a k : Nat) (x : α) {j : Nat} (h : j ≠ k) : x2 f a k x a j = f a j := by
  unfold x2
  have : Nat.beq j k = false := by
    cases hb : Nat.beq j k with
    | false => rfl
    | true => exact absurd (Nat.eq_of_beq_eq_true hb) h
  rw [this, Bool.and_false]
  rfl
theorem x0_row {α : Type} (f : Nat → Nat → α) (a : Nat) (z : α) {b : Nat} (h : b ≠ a) : x0 f a z b = f b := by
  funext j
  unfold x0
  have : Nat.beq b a = false := by
    cases hb : Nat.beq b a with
    | false => rfl
    | true => exact absurd (Nat.eq_of_beq_eq_true hb) h
  rw [this]
  rfl
theorem x0_at {α : Type} (f : Nat → Nat → α) (a : Nat) (z : α) : x0 f a z a = fun _ => z := by
  funext j
  unfold x0
  rw [Nat.beq_refl]
  rfl
theorem x2_upd (f : Nat → Nat → Int32) (a k : Nat) (x : Int32) : x2 f a k x a = upd (f a) k x := by
  funext j
  by_cases h : j = k
  · subst h; rw [x2_at]; simp [upd]
  · rw [x2_ne _ _ _ _ h]; simp [upd, h]
theorem x2_updL (f : Nat → Nat → Int64) (a k : Nat) (x : Int64) : x2 f a k x a = vp_updL (f a) k x := by
  funext j
  by_cases h : j = k
  · subst h; rw [x2_at]; simp [vp_updL]
  · rw [x2_ne _ _ _ _ h]; simp [vp_updL, h]
theorem x2_updF (f : Nat → Nat → UInt32) (a k : Nat) (x : UInt32) : x2 f a k x a = vf_upd (f a) k x := by
  funext j
  by_cases h : j = k
  · subst h; rw [x2_at]; simp [vf_upd]
  · rw [x2_ne _ _ _ _ h]; simp [vf_upd, h]
theorem xget_row {ty : FieldType} {k a : Nat} {rf : List (Option Nat)} {d d' : xD} (h1 : d'.1 a = d.1 a) (h2 : d'.2.1 a = d.2.1 a) (h3 : d'.2.2 a = d.2.2 a) : xget ty k a rf d' = xget ty k a rf d := by
  cases ty <;> simp only [xget, h1, h2, h3]
theorem xce_row {E : xE} {cA : FieldType → ClassId} {r : Nat → Option Nat} {t : xS} {i : Nat} {d d' : xD} {e : va_E} (h1 : d'.1 i = d.1 i) (h2 : d'.2.1 i = d.2.1 i) (h3 : d'.2.2 i = d.2.2 i) (k : xce E cA r t i d e) : xce E cA r t i d' e := by
  unfold xce at k ⊢
  split at k
  · rw [h1]; exact k
  · rw [h1]; exact k
  · rw [h2]; exact k
  · rw [h3]; exact k
  · exact k
  · exact k
  · obtain ⟨fs, e1, e2, e4, e3⟩ := k
    refine ⟨fs, e1, e2, e4, fun j ty hj => ?_⟩
    rw [xget_row h1 h2 h3]
    exact e3 j ty hj
/-- a cell is written -/
theorem xW_set {E : xE} {ad : Nat → Nat} {cA : FieldType → ClassId} {h h' : xH} {ws : va_W} {a q : Nat} {e e' : va_E} (k : xW E ad cA h ws) (hq : ws[a]? = some (q, e)) (hlen : h'.1.length = h.1.length) (hsh : ∀ i, i ≠ a → h'.1[i]? = h.1[i]?)
    (hd : ∀ i, i ≠ a → h'.2.1 i = h.2.1 i ∧ h'.2.2.1 i = h.2.2.1 i ∧ h'.2.2.2 i = h.2.2.2 i) (hnew : ∀ t, h'.1[a]? = some t → xce E cA (xa ad ws) t a h'.2 e') : xW E ad cA h' (ws.set a (q, e')) := by
  have hl := (List.getElem?_eq_some_iff.mp hq).1
  refine ⟨by rw [List.length_set, hlen]; exact k.1, by rw [hlen]; exact k.2.1, fun i t hi => ?_⟩
  rw [xa_set ad ws hq]
  by_cases hia : i = a
  · subst hia
    exact ⟨q, e', List.getElem?_set_self hl, hnew t hi⟩
  · rw [hsh i hia] at hi
    obtain ⟨b, e2, g1, g2⟩ := k.2.2 i t hi
    obtain ⟨d1, d2, d3⟩ := hd i hia
    exact ⟨b, e2, by rw [List.getElem?_set_ne (Ne.symm hia)]; exact g1, xce_row d1 d2 d3 g2⟩
/-- a cell is made -/
theorem xW_push {E : xE} {ad : Nat → Nat} {cA : FieldType → ClassId} {h : xH} {d' : xD} {ws : va_W} {q : Nat} {e : va_E} {t : xS} (k : xW E ad cA h ws) (hlt : h.1.length + 1 ≤ xt0)
    (hd : ∀ i, i ≠ h.1.length → d'.1 i = h.2.1 i ∧ d'.2.1 i = h.2.2.1 i ∧ d'.2.2 i = h.2.2.2 i) (hnew : xce E cA (xa ad (ws ++ [(q, e)])) t h.1.length d' e) : xW E ad cA (h.1 ++ [t], d') (ws ++ [(q, e)]) := by
  refine ⟨by simp [k.1], by simpa using hlt, fun i u hi => ?_⟩
  have hi : (h.1 ++ [t])[i]? = some u := hi
  by_cases hl : i < h.1.length
  · rw [List.getElem?_append_left hl] at hi
    obtain ⟨b, e2, g1, g2⟩ := k.2.2 i u hi
    obtain ⟨d1, d2, d3⟩ := hd i (by omega)
    exact ⟨b, e2, by rw [List.getElem?_append_left (by rw [k.1]; exact hl)]; exact g1, xce_row d1 d2 d3 (xce_mono (xmon_app ad ws _) g2)⟩
  · rw [List.getElem?_append_right (by omega)] at hi
    have hz : i - h.1.length < 1 := (List.getElem?_eq_some_iff.mp hi).1
    have he : i = h.1.length := by omega
    subst he
    rw [Nat.sub_self] at hi
    cases hi
    exact ⟨q, e, by rw [← k.1, List.getElem?_append_right (Nat.le_refl _), Nat.sub_self]; rfl, hnew⟩
theorem xclr_row (d : xD) (q : Nat) {i : Nat} (h : i ≠ q) : (xclr d q).1 i = d.1 i ∧ (xclr d q).2.1 i = d.2.1 i ∧ (xclr d q).2.2 i = d.2.2 i := ⟨x0_row _ _ _ h, x0_row _ _ _ h, x0_row _ _ _ h⟩
theorem xsz_set {E : xE} {sh : List xS} {a : Nat} {t t' : xS} (h : sh[a]? = some t) (he : xs1 E t' = xs1 E t) : xsz E (sh.set a t') = xsz E sh := by
  unfold xsz
  congr 1
  apply List.ext_getElem?
  intro i
  rw [List.getElem?_map, List.getElem?_map]
  by_cases hi : i = a
  · subst hi
    rw [List.getElem?_set_self (List.getElem?_eq_some_iff.mp h).1, h]
    exact congrArg some he
  · rw [List.getElem?_set_ne (Ne.symm hi)]
theorem xsz_app (E : xE) (a b : List xS) : xsz E (a ++ b) = xsz E a + xsz E b := by simp [xsz, List.sum_append]
/-- what the tables say of the classes -/
def xCL (E : xE) (cl : List vw_C) (TB : List Cond) : Prop := ∀ (ci : Nat) (r : vw_C), cl[ci]? = some r → (∀ w ∈ u_ws r.1 r.2.1 r.2.2, w ∈ TB) ∧ (E.2.1 ci).length = r.2.2 ∧ (∀ k, k < r.2.2 → parseFieldDescriptor (r.2.1 k).2.2.1 = some ((E.2.1 ci).getD k .int)) ∧ (∀ a, a < r.2.2 → ∀ b, b < r.2.2 → a ≠ b → (r.2.1 a).2.1 ≠ (r.2.1 b).2.1) ∧ Cond.instantiable r.1 r.2.2 ∈ TB ∧ Cond.initialized r.1 ∈ TB ∧ ∀ ty ∈ E.2.1 ci, ty ≠ .double
abbrev xNF : Type := String × Nat × String × String × String × String
def xnf (q : xNF) : Cond := .fieldLinkNest q.1 q.2.1 q.2.2.1 q.2.2.2.1 q.2.2.2.2.1 q.2.2.2.2.2
def xLF (TB : List Cond) (TF : List xNF) (own : String) (idx : Nat) (f : String × String × String × Bool) : Prop := Cond.fieldLink own idx f.1 f.2.1 f.2.2.1 ∈ TB ∨ ∃ host, (own, idx, f.1, f.2.1, f.2.2.1, host) ∈ TF
section XSH
variable {p : Program} {l : Launch} {e : Env} {R : Room} {s : State} {m : MethodId} {args : Array Value} {below : List Frame} {meth : Method} {c : Code} {Q : State → Prop}
variable {E : xE} {ad : Nat → Nat} {cA : FieldType → ClassId} {D : va_G} {cl : List vw_C} {A : Nat → Prop} {r0 : Nat → Option Nat} {nL mc ms fin finS : Nat}
variable {rc : Nat → xM → xF → xP → Prop} {rn : xF → xP → Prop} {d : Nat} {Q0 : xP} {pc : Nat} {ls : xL} {st : List Value} {h : xH} {cc : ByteArray} {TB : List Cond} {TF : List xNF} {own : String}
theorem so_gf (hx : p.tables.exec = Jvm.exec) (hb : c.code = cc) (hts : ∀ w ∈ TB, w.before args s = true) (hCL : xCL E cl TB) (hown : s.vm.findClass own = some m.cls) (hK : va_K D cl (xtys cA) s) (hTF : ∀ q ∈ TF, va_Nw (xnf q) s) (hN : ∀ f, rn f Q0 → xG p l e R s m args below meth c Q E ad cA D cl A r0 nL mc ms fin finS f) {ci k idx : Nat} {r : vw_C} (hr : cl[ci]? = some r) (hk : k < r.2.2) (hlk : xLF TB TF own idx (r.2.1 k)) (hdg : decode cc pc = .ok (.getfield idx, 3))
    (kk : xwo E rc rn d Q0 (xgf E (pc + 3) [ci, k] ls st h)) : xG p l e R s m args below meth c Q E ad cA D cl A r0 nL mc ms fin finS (pc, ls, st, h) := by
  replace kk : xwo E rc rn d Q0 (xgft E (pc + 3) ci k ls st h) := kk
  unfold xgft at kk
  split at kk
  · rename_i a rst
    split at kk
    · rename_i c2 rf ty ha hty
      cases hb2 : Nat.beq c2 ci with
      | false => rw [hb2] at kk; exact kk.1.elim
      | true =>
        rw [hb2] at kk
        have := Nat.eq_of_beq_eq_true hb2
        subst this
        intro cells slots ws H locs lsC stC h1 h2 hrel
        obtain ⟨⟨hW, hm⟩, hP, hD, hS, hl, hst⟩ := hrel
        obtain ⟨_, _, rfl, ⟨q, hq, rfl⟩, hst⟩ := hst
        obtain ⟨e9, g1, fs, rfl, g3, g8, g4⟩ := xW_at hW ha hq
        obtain ⟨v, g5, g6⟩ := g4 k ty hty
        obtain ⟨t1, t2, t3, t4, t5, t6, t7⟩ := hCL _ r hr
        have kn := hN _ kk cells slots ws H locs lsC _ h1 h2 ⟨⟨hW, hm⟩, hP, hD, hS, hl, ⟨_, _, rfl, g6, hst⟩⟩
        rcases hlk with hlk | ⟨host, hlk⟩
        · exact va_get (C := r.1) (T := r.2.1) (N := r.2.2) hx hb hts t1 hown hK hP a g1 hr k hk (hts _ hlk) (fun _ h9 => h9) g5 hdg kn
        · exact va_getN (C := r.1) (T := r.2.1) (N := r.2.2) hx hb hts t1 hown hK hP a g1 hr k hk (va_Nw.use rfl (hTF _ hlk)) (fun _ h9 => h9) g5 hdg kn
    · exact kk.1.elim
  · exact kk.1.elim
/-- a field is written: the machine's side -/
theorem so_pfW (hx : p.tables.exec = Jvm.exec) (hb : c.code = cc) (hts : ∀ w ∈ TB, w.before args s = true) (hCL : xCL E cl TB) (hown : s.vm.findClass own = some m.cls) (hK : va_K D cl (xtys cA) s) (hTF : ∀ q ∈ TF, va_Nw (xnf q) s) {ci k idx : Nat} {r : vw_C} (hr : cl[ci]? = some r) (hk : k < r.2.2) (hlk : xLF TB TF own idx (r.2.1 k)) (hfin : (r.2.1 k).2.2.2 = false ∨ (meth.name = "<init>" ∧ (r.2.1 k).1 = own ∧ Cond.fieldLink own idx (r.2.1 k).1 (r.2.1 k).2.1 (r.2.1 k).2.2.1 ∈ TB)) (hdg : decode cc pc = .ok (.putfield idx, 3))
    {cells slots a q : Nat} {ws : va_W} {H : Heap} {locs : List Loc} {lsC : Array Slot} {rest : List Value} {fs : List Value} {v : Value} {ty : FieldType} (hP : va_P D cl ws H) (hD : va_D A ws) (hS : va_S A s.heap H locs) (he : ws[a]? = some (q, .inr (ci, fs))) (hty : (E.2.1 ci)[k]? = some ty) (hl : fs.length = (E.2.1 ci).length) (hn : narrow ty v = v) (hfit : fits ty v = true)
    (kk : ∀ (H1 : Heap) (locs1 : List Loc), va_P D cl (ws.set a (q, .inr (ci, fs.set k v))) H1 → va_D A (ws.set a (q, .inr (ci, fs.set k v))) → va_S A s.heap H1 locs1 → W p l e R s m args below meth c H1 locs1 cells slots Q (F0 m (pc + 3) lsC rest)) : W p l e R s m args below meth c H locs cells slots Q (F0 m pc lsC (v :: .ref q :: rest)) := by
  obtain ⟨t1, t2, t3, t4, t5, t6, t7⟩ := hCL _ r hr
  have hpd : parseFieldDescriptor (r.2.1 k).2.2.1 = some ty := by
    rw [t3 k hk, List.getD_eq_getElem?_getD, hty]
    rfl
  have hkl : k < fs.length := by rw [hl, t2]; exact hk
  rcases hfin with hf | ⟨hf1, hf2, hf3⟩
  · rcases hlk with hlk | ⟨host, hlk⟩
    · exact va_put (C := r.1) (T := r.2.1) (N := r.2.2) hx hb hts t1 (fun k => (E.2.1 ci).getD k .int) t3 t4 hown hK hP hD hS a he hr k hk (hts _ hlk) (fun _ h9 => h9) hf hpd hn hfit hkl hdg kk
    · exact va_putN (C := r.1) (T := r.2.1) (N := r.2.2) hx hb hts t1 (fun k => (E.2.1 ci).getD k .int) t3 t4 hown hK hP hD hS a he hr k hk (va_Nw.use rfl (hTF _ hlk)) (fun _ h9 => h9) hf hpd hn hfit hkl hdg kk
  · cases hb9 : (r.2.1 k).2.2.2 with
    | false => exact va_put (C := r.1) (T := r.2.1) (N := r.2.2) hx hb hts t1 (fun k => (E.2.1 ci).getD k .int) t3 t4 hown hK hP hD hS a he hr k hk (hts _ hf3) (fun _ h9 => h9) hb9 hpd hn hfit hkl hdg kk
    | true => exact va_putF (C := r.1) (T := r.2.1) (N := r.2.2) hx hb hts t1 (fun k => (E.2.1 ci).getD k .int) t3 t4 hown hK hP hD hS a he hr k hk (hts _ hf3) (fun _ h9 => h9) hb9 hf1 hf2 hpd hn hfit hkl hdg kk
/-- a field is written: on paper -/
theorem xce_pf {E : xE} {cA : FieldType → ClassId} {r : Nat → Option Nat} {ci k a : Nat} {rf rf' : List (Option Nat)} {d d' : xD} {fs : List Value} {v w : Value} {ty : FieldType} (h2 : fs.length = (E.2.1 ci).length) (h3 : ∀ (k : Nat) (ty : FieldType), (E.2.1 ci)[k]? = some ty → ∃ v, fs[k]? = some v ∧ xv r (xget ty k a rf d) v)
    (hrf : rf'.length = (E.2.1 ci).length) (hty : (E.2.1 ci)[k]? = some ty) (hv : xv r v w) (hnew : xget ty k a rf' d' = v) (hold : ∀ j t, j ≠ k → (E.2.1 ci)[j]? = some t → xget t j a rf' d' = xget t j a rf d) : xce E cA r (.inr (ci, rf')) a d' (.inr (ci, fs.set k w)) := by
  have hk : k < fs.length := by rw [h2]; exact (List.getElem?_eq_some_iff.mp hty).1
  refine ⟨fs.set k w, rfl, by rw [List.length_set]; exact h2, hrf, fun j t hj => ?_⟩
  by_cases hjk : j = k
  · subst hjk
    cases hty.symm.trans hj
    exact ⟨w, List.getElem?_set_self hk, by rw [hnew]; exact hv⟩
  · rw [List.getElem?_set_ne (Ne.symm hjk), hold j t hjk hj]
    exact h3 j t hj
theorem so_pf (hx : p.tables.exec = Jvm.exec) (hb : c.code = cc) (hts : ∀ w ∈ TB, w.before args s = true) (hCL : xCL E cl TB) (hown : s.vm.findClass own = some m.cls) (hK : va_K D cl (xtys cA) s) (hTF : ∀ q ∈ TF, va_Nw (xnf q) s) (hN : ∀ f, rn f Q0 → xG p l e R s m args below meth c Q E ad cA D cl A r0 nL mc ms fin finS f) {ci k idx : Nat} {r : vw_C} (hr : cl[ci]? = some r) (hk : k < r.2.2) (hlk : xLF TB TF own idx (r.2.1 k)) (hfin : (r.2.1 k).2.2.2 = false ∨ (meth.name = "<init>" ∧ (r.2.1 k).1 = own ∧ Cond.fieldLink own idx (r.2.1 k).1 (r.2.1 k).2.1 (r.2.1 k).2.2.1 ∈ TB)) (hdg : decode cc pc = .ok (.putfield idx, 3))
    (kk : xwo E rc rn d Q0 (xpf E (pc + 3) [ci, k] ls st h)) : xG p l e R s m args below meth c Q E ad cA D cl A r0 nL mc ms fin finS (pc, ls, st, h) := by
  replace kk : xwo E rc rn d Q0 (xpft E (pc + 3) ci k ls st h) := kk
  unfold xpft at kk
  split at kk
  · rename_i v a rst
    split at kk
    · rename_i c2 rf ty ha hty
      cases hb2 : Nat.beq c2 ci with
      | false => rw [hb2] at kk; exact kk.1.elim
      | true =>
        rw [hb2] at kk
        have := Nat.eq_of_beq_eq_true hb2
        subst this
        intro cells slots ws H locs lsC stC h1 h2 hrel
        obtain ⟨⟨hW, hm⟩, hP, hD, hS, hl, hst⟩ := hrel
        obtain ⟨w, _, rfl, hw, _, rstC, rfl, ⟨q, hq, rfl⟩, hst⟩ := hst
        obtain ⟨e9, g1, fs, rfl, g3, g8, g4⟩ := xW_at hW ha hq
        have hlen : a < h.1.length := (List.getElem?_eq_some_iff.mp ha).1
        have row : ∀ (h' : xH), narrow ty w = w → fits ty w = true → h'.1.length = h.1.length → xsz E h'.1 = xsz E h.1 → (∀ i, i ≠ a → h'.1[i]? = h.1[i]?) → (∀ i, i ≠ a → h'.2.1 i = h.2.1 i ∧ h'.2.2.1 i = h.2.2.1 i ∧ h'.2.2.2 i = h.2.2.2 i) → (∃ rf', h'.1[a]? = some (.inr (c2, rf')) ∧ rf'.length = (E.2.1 c2).length ∧ xget ty k a rf' h'.2 = v ∧ ∀ j t, j ≠ k → (E.2.1 c2)[j]? = some t → xget t j a rf' h'.2 = xget t j a rf h.2) → rn (pc + 3, ls, rst, h') Q0 → W p l e R s m args below meth c H locs cells slots Q (F0 m pc lsC (w :: .ref q :: rstC)) := by
          intro h' hn hfit e1 e2 e3 e4 ⟨rf', e5, e55, e6, e7⟩ e8
          refine so_pfW (cells := cells) (slots := slots) hx hb hts hCL hown hK hTF hr hk hlk hfin hdg hP hD hS g1 hty g3 hn hfit (fun H1 locs1 hP1 hD1 hS1 => ?_)
          have hW1 : xW E ad cA h' (ws.set a (q, .inr (c2, fs.set k w))) := xW_set hW g1 e1 e3 e4 (fun t ht => by
            cases e5.symm.trans ht
            exact xce_pf g3 g4 e55 hty hw e6 e7)
          have hmon : xa ad (ws.set a (q, .inr (c2, fs.set k w))) = xa ad ws := xa_set ad ws g1
          exact hN _ e8 cells slots _ H1 locs1 lsC _ (by rw [show (pc + 3, ls, rst, h').2.2.2.1.length = h'.1.length from rfl, e1]; exact h1) (by rw [show xsz E (pc + 3, ls, rst, h').2.2.2.1 = xsz E h'.1 from rfl, e2]; exact h2) ⟨⟨hW1, by rw [hmon]; exact hm⟩, hP1, hD1, hS1, by rw [hmon]; exact hl, by rw [hmon]; exact hst⟩
        have hset : ∀ rf' : List (Option Nat), (h.1.set a (.inr (c2, rf')))[a]? = some (.inr (c2, rf')) := fun rf' => List.getElem?_set_self hlen
        have hoth : ∀ (rf' : List (Option Nat)) (i : Nat), i ≠ a → (h.1.set a (.inr (c2, rf')))[i]? = h.1[i]? := fun rf' i hi => List.getElem?_set_ne (Ne.symm hi)
        have hszs : ∀ rf' : List (Option Nat), xsz E (h.1.set a (.inr (c2, rf'))) = xsz E h.1 := fun rf' => xsz_set ha rfl
        have hkr : k < rf.length := by rw [g8]; exact (List.getElem?_eq_some_iff.mp hty).1
        unfold xwr at kk
        split at kk
        · rename_i x
          obtain rfl := hw
          exact row (h.1, x2 h.2.1 a k x, h.2.2) rfl rfl rfl rfl (fun _ _ => rfl) (fun i hi => ⟨x2_row _ _ _ _ hi, rfl, rfl⟩) ⟨rf, ha, g8, by show Value.int (x2 h.2.1 a k x a k) = _; rw [x2_at], fun j t hj _ => by cases t <;> simp only [xget, x2_ne _ _ _ _ hj]⟩ kk
        · rename_i x
          obtain rfl := hw
          have hx01 := kk.1
          exact row (h.1, x2 h.2.1 a k x, h.2.2) (by rcases hx01 with rfl | rfl <;> rfl) (by rcases hx01 with rfl | rfl <;> rfl) rfl rfl (fun _ _ => rfl) (fun i hi => ⟨x2_row _ _ _ _ hi, rfl, rfl⟩) ⟨rf, ha, g8, by show Value.int (x2 h.2.1 a k x a k) = _; rw [x2_at], fun j t hj _ => by cases t <;> simp only [xget, x2_ne _ _ _ _ hj]⟩ kk.2
        · rename_i x
          obtain rfl := hw
          exact row (h.1, h.2.1, x2 h.2.2.1 a k x, h.2.2.2) rfl rfl rfl rfl (fun _ _ => rfl) (fun i hi => ⟨rfl, x2_row _ _ _ _ hi, rfl⟩) ⟨rf, ha, g8, by show Value.long (x2 h.2.2.1 a k x a k) = _; rw [x2_at], fun j t hj _ => by cases t <;> simp only [xget, x2_ne _ _ _ _ hj]⟩ kk
        · rename_i x
          obtain rfl := hw
          exact row (h.1, h.2.1, h.2.2.1, x2 h.2.2.2 a k x) rfl rfl rfl rfl (fun _ _ => rfl) (fun i hi => ⟨rfl, rfl, x2_row _ _ _ _ hi⟩) ⟨rf, ha, g8, by show Value.float (x2 h.2.2.2 a k x a k) = _; rw [x2_at], fun j t hj _ => by cases t <;> simp only [xget, x2_ne _ _ _ _ hj]⟩ kk
        · rename_i C x
          obtain ⟨q2, hq2, rfl⟩ := hw
          exact row (h.1.set a (.inr (c2, rf.set k (some x))), h.2) rfl rfl (by simp) (hszs _) (fun i hi => hoth _ i hi) (fun _ _ => ⟨rfl, rfl, rfl⟩) ⟨rf.set k (some x), hset _, by rw [List.length_set]; exact g8, by show xrv (rf.set k (some x))[k]? = _; rw [List.getElem?_set_self hkr]; rfl, fun j t hj _ => by cases t <;> simp only [xget, List.getElem?_set_ne (Ne.symm hj)]⟩ kk
        · rename_i C x
          obtain ⟨q2, hq2, rfl⟩ := hw
          exact row (h.1.set a (.inr (c2, rf.set k (some x))), h.2) rfl rfl (by simp) (hszs _) (fun i hi => hoth _ i hi) (fun _ _ => ⟨rfl, rfl, rfl⟩) ⟨rf.set k (some x), hset _, by rw [List.length_set]; exact g8, by show xrv (rf.set k (some x))[k]? = _; rw [List.getElem?_set_self hkr]; rfl, fun j t hj _ => by cases t <;> simp only [xget, List.getElem?_set_ne (Ne.symm hj)]⟩ kk
        · rename_i C
          obtain rfl := hw
          exact row (h.1.set a (.inr (c2, rf.set k none)), h.2) rfl rfl (by simp) (hszs _) (fun i hi => hoth _ i hi) (fun _ _ => ⟨rfl, rfl, rfl⟩) ⟨rf.set k none, hset _, by rw [List.length_set]; exact g8, by show xrv (rf.set k none)[k]? = _; rw [List.getElem?_set_self hkr]; rfl, fun j t hj _ => by cases t <;> simp only [xget, List.getElem?_set_ne (Ne.symm hj)]⟩ kk
        · rename_i C
          obtain rfl := hw
          exact row (h.1.set a (.inr (c2, rf.set k none)), h.2) rfl rfl (by simp) (hszs _) (fun i hi => hoth _ i hi) (fun _ _ => ⟨rfl, rfl, rfl⟩) ⟨rf.set k none, hset _, by rw [List.length_set]; exact g8, by show xrv (rf.set k none)[k]? = _; rw [List.getElem?_set_self hkr]; rfl, fun j t hj _ => by cases t <;> simp only [xget, List.getElem?_set_ne (Ne.symm hj)]⟩ kk
        · exact kk.1.elim
    · exact kk.1.elim
  · exact kk.1.elim
theorem so_aldI (hx : p.tables.exec = Jvm.exec) (hb : c.code = cc) (hK : va_K D cl (xtys cA) s) (hN : ∀ f, rn f Q0 → xG p l e R s m args below meth c Q E ad cA D cl A r0 nL mc ms fin finS f) (hdg : decode cc pc = .ok (.iaload, 1)) (kk : xwo E rc rn d Q0 (xaldI (pc + 1) ls st h)) : xG p l e R s m args below meth c Q E ad cA D cl A r0 nL mc ms fin finS (pc, ls, st, h) := by
  unfold xaldI at kk
  split at kk
  · rename_i i a rst
    split at kk
    · rename_i n rs ha
      intro cells slots ws H locs lsC stC h1 h2 hrel
      obtain ⟨⟨hW, hm⟩, hP, hD, hS, hl, hst⟩ := hrel
      obtain ⟨_, _, rfl, rfl, _, _, rfl, ⟨q, hq, rfl⟩, hst⟩ := hst
      obtain ⟨e9, g1, rfl⟩ := xW_at hW ha hq
      exact va_iald hx hb hK hP a 0 g1 rfl kk.1 hdg (hN _ kk.2 cells slots ws H locs lsC _ h1 h2 ⟨⟨hW, hm⟩, hP, hD, hS, hl, ⟨_, _, rfl, rfl, hst⟩⟩)
    · exact kk.1.elim
  · exact kk.1.elim
theorem so_aldB (hx : p.tables.exec = Jvm.exec) (hb : c.code = cc) (hK : va_K D cl (xtys cA) s) (hN : ∀ f, rn f Q0 → xG p l e R s m args below meth c Q E ad cA D cl A r0 nL mc ms fin finS f) (hdg : decode cc pc = .ok (.baload, 1)) (kk : xwo E rc rn d Q0 (xaldB (pc + 1) ls st h)) : xG p l e R s m args below meth c Q E ad cA D cl A r0 nL mc ms fin finS (pc, ls, st, h) := by
  unfold xaldB at kk
  split at kk
  · rename_i i a rst
    split at kk
    · rename_i n rs ha
      intro cells slots ws H locs lsC stC h1 h2 hrel
      obtain ⟨⟨hW, hm⟩, hP, hD, hS, hl, hst⟩ := hrel
      obtain ⟨_, _, rfl, rfl, _, _, rfl, ⟨q, hq, rfl⟩, hst⟩ := hst
      obtain ⟨e9, g1, rfl⟩ := xW_at hW ha hq
      exact va_bald hx hb hK hP a 1 g1 rfl kk.1 hdg (hN _ kk.2 cells slots ws H locs lsC _ h1 h2 ⟨⟨hW, hm⟩, hP, hD, hS, hl, ⟨_, _, rfl, rfl, hst⟩⟩)
    · exact kk.1.elim
  · exact kk.1.elim
theorem so_aldL (hx : p.tables.exec = Jvm.exec) (hb : c.code = cc) (hK : va_K D cl (xtys cA) s) (hN : ∀ f, rn f Q0 → xG p l e R s m args below meth c Q E ad cA D cl A r0 nL mc ms fin finS f) (hdg : decode cc pc = .ok (.laload, 1)) (kk : xwo E rc rn d Q0 (xaldL (pc + 1) ls st h)) : xG p l e R s m args below meth c Q E ad cA D cl A r0 nL mc ms fin finS (pc, ls, st, h) := by
  unfold xaldL at kk
  split at kk
  · rename_i i a rst
    split at kk
    · rename_i n rs ha
      intro cells slots ws H locs lsC stC h1 h2 hrel
      obtain ⟨⟨hW, hm⟩, hP, hD, hS, hl, hst⟩ := hrel
      obtain ⟨_, _, rfl, rfl, _, _, rfl, ⟨q, hq, rfl⟩, hst⟩ := hst
      obtain ⟨e9, g1, rfl⟩ := xW_at hW ha hq
      exact va_lald hx hb hK hP a 2 g1 rfl kk.1 hdg (hN _ kk.2 cells slots ws H locs lsC _ h1 h2 ⟨⟨hW, hm⟩, hP, hD, hS, hl, ⟨_, _, rfl, rfl, hst⟩⟩)
    · exact kk.1.elim
  · exact kk.1.elim
theorem so_aldF (hx : p.tables.exec = Jvm.exec) (hb : c.code = cc) (hK : va_K D cl (xtys cA) s) (hN : ∀ f, rn f Q0 → xG p l e R s m args below meth c Q E ad cA D cl A r0 nL mc ms fin finS f) (hdg : decode cc pc = .ok (.faload, 1)) (kk : xwo E rc rn d Q0 (xaldF (pc + 1) ls st h)) : xG p l e R s m args below meth c Q E ad cA D cl A r0 nL mc ms fin finS (pc, ls, st, h) := by
  unfold xaldF at kk
  split at kk
  · rename_i i a rst
    split at kk
    · rename_i n rs ha
      intro cells slots ws H locs lsC stC h1 h2 hrel
      obtain ⟨⟨hW, hm⟩, hP, hD, hS, hl, hst⟩ := hrel
      obtain ⟨_, _, rfl, rfl, _, _, rfl, ⟨q, hq, rfl⟩, hst⟩ := hst
      obtain ⟨e9, g1, rfl⟩ := xW_at hW ha hq
      exact va_fald hx hb hK hP a 3 g1 rfl kk.1 hdg (hN _ kk.2 cells slots ws H locs lsC _ h1 h2 ⟨⟨hW, hm⟩, hP, hD, hS, hl, ⟨_, _, rfl, rfl, hst⟩⟩)
    · exact kk.1.elim
  · exact kk.1.elim
theorem so_aldA (hx : p.tables.exec = Jvm.exec) (hb : c.code = cc) (hK : va_K D cl (xtys cA) s) (hN : ∀ f, rn f Q0 → xG p l e R s m args below meth c Q E ad cA D cl A r0 nL mc ms fin finS f) (hdg : decode cc pc = .ok (.aaload, 1)) (kk : xwo E rc rn d Q0 (xaldA (pc + 1) ls st h)) : xG p l e R s m args below meth c Q E ad cA D cl A r0 nL mc ms fin finS (pc, ls, st, h) := by
  unfold xaldA at kk
  split at kk
  · rename_i i a rst
    split at kk
    · rename_i n rs ha
      intro cells slots ws H locs lsC stC h1 h2 hrel
      obtain ⟨⟨hW, hm⟩, hP, hD, hS, hl, hst⟩ := hrel
      obtain ⟨_, _, rfl, rfl, _, _, rfl, ⟨q, hq, rfl⟩, hst⟩ := hst
      obtain ⟨e9, g1, f, rfl, g3⟩ := xW_at hW ha hq
      have hin := kk.1
      have hlt : i.toNatClampNeg < n := Nat.not_le.mp fun q => hin (Or.inr q)
      have hf := g3 _ hlt
      have hv : xv (xa ad ws) (xrv rs[i.toNatClampNeg]?) (va_rf (f i.toNatClampNeg)) := by
        unfold xqr at hf
        split at hf
        · rename_i k9 hk9
          obtain ⟨a9, e1, e2⟩ := hf
          rw [hk9, e2]
          exact ⟨a9, e1, rfl⟩
        · rename_i hk9
          rw [hf]
          cases hz : rs[i.toNatClampNeg]? with
          | none => rfl
          | some o =>
            cases o with
            | none => rfl
            | some k9 => exact absurd hz (hk9 k9)
      exact W.aald (v := va_rf (f i.toNatClampNeg)) (ty := .array .float) hx hb (hP a _ g1) ((hK.2 4 _ rfl).1 n (fun j => va_rf (f j))) rfl (fun q => by cases q) (by show ¬ (i < 0 ∨ (arrV _ _ _).slots.size ≤ _); rw [arrV_size]; exact hin) (by show (arrV _ _ _).slots[_]? = _; rw [arrV_read _ _ hlt]) rfl rfl hdg (hN _ kk.2 cells slots ws H locs lsC _ h1 h2 ⟨⟨hW, hm⟩, hP, hD, hS, hl, ⟨_, _, rfl, hv, hst⟩⟩)
    · exact kk.1.elim
  · exact kk.1.elim
theorem so_astI (hx : p.tables.exec = Jvm.exec) (hb : c.code = cc) (hK : va_K D cl (xtys cA) s) (hN : ∀ f, rn f Q0 → xG p l e R s m args below meth c Q E ad cA D cl A r0 nL mc ms fin finS f) (hdg : decode cc pc = .ok (.iastore, 1)) (kk : xwo E rc rn d Q0 (xastI (pc + 1) ls st h)) : xG p l e R s m args below meth c Q E ad cA D cl A r0 nL mc ms fin finS (pc, ls, st, h) := by
  unfold xastI at kk
  split at kk
  · rename_i x i a rst
    split at kk
    · rename_i n rs ha
      intro cells slots ws H locs lsC stC h1 h2 hrel
      obtain ⟨⟨hW, hm⟩, hP, hD, hS, hl, hst⟩ := hrel
      obtain ⟨_, _, rfl, rfl, _, _, rfl, rfl, _, _, rfl, ⟨q, hq, rfl⟩, hst⟩ := hst
      obtain ⟨e9, g1, rfl⟩ := xW_at hW ha hq
      refine va_iast hx hb hK hP hD hS a 0 g1 rfl kk.1 hdg (fun H1 locs1 hP1 hD1 hS1 => ?_)
      have hmon : ∀ e9 : va_E, xa ad (ws.set a (q, e9)) = xa ad ws := fun e9 => xa_set ad ws (e := e9) g1
      refine hN _ kk.2 cells slots _ H1 locs1 lsC _ h1 h2 ⟨⟨xW_set (h' := (h.1, x2 h.2.1 a i.toNatClampNeg x, h.2.2)) hW g1 rfl (fun _ _ => rfl) (fun i hi => ⟨x2_row _ _ _ _ hi, rfl, rfl⟩) (fun t ht => ?_), by rw [hmon]; exact hm⟩, hP1, hD1, hS1, by rw [hmon]; exact hl, by rw [hmon]; exact hst⟩
      cases ha.symm.trans ht
      have e9 := x2_upd h.2.1 a i.toNatClampNeg x
      show _ = Sum.inl (cA .int, n, Sum.inl (x2 h.2.1 a i.toNatClampNeg x a))
      first | (rw [e9]; done) | (rw [e9]; rfl)
    · exact kk.1.elim
  · exact kk.1.elim
theorem so_astB (hx : p.tables.exec = Jvm.exec) (hb : c.code = cc) (hK : va_K D cl (xtys cA) s) (hN : ∀ f, rn f Q0 → xG p l e R s m args below meth c Q E ad cA D cl A r0 nL mc ms fin finS f) (hdg : decode cc pc = .ok (.bastore, 1)) (kk : xwo E rc rn d Q0 (xastB (pc + 1) ls st h)) : xG p l e R s m args below meth c Q E ad cA D cl A r0 nL mc ms fin finS (pc, ls, st, h) := by
  unfold xastB at kk
  split at kk
  · rename_i x i a rst
    split at kk
    · rename_i n rs ha
      intro cells slots ws H locs lsC stC h1 h2 hrel
      obtain ⟨⟨hW, hm⟩, hP, hD, hS, hl, hst⟩ := hrel
      obtain ⟨_, _, rfl, rfl, _, _, rfl, rfl, _, _, rfl, ⟨q, hq, rfl⟩, hst⟩ := hst
      obtain ⟨e9, g1, rfl⟩ := xW_at hW ha hq
      refine va_bast hx hb hK hP hD hS a 1 g1 rfl kk.1 hdg (fun H1 locs1 hP1 hD1 hS1 => ?_)
      have hmon : ∀ e9 : va_E, xa ad (ws.set a (q, e9)) = xa ad ws := fun e9 => xa_set ad ws (e := e9) g1
      refine hN _ kk.2 cells slots _ H1 locs1 lsC _ h1 h2 ⟨⟨xW_set (h' := (h.1, x2 h.2.1 a i.toNatClampNeg x.toInt8.toInt32, h.2.2)) hW g1 rfl (fun _ _ => rfl) (fun i hi => ⟨x2_row _ _ _ _ hi, rfl, rfl⟩) (fun t ht => ?_), by rw [hmon]; exact hm⟩, hP1, hD1, hS1, by rw [hmon]; exact hl, by rw [hmon]; exact hst⟩
      cases ha.symm.trans ht
      have e9 := x2_upd h.2.1 a i.toNatClampNeg x.toInt8.toInt32
      show _ = Sum.inl (cA .byte, n, Sum.inl (x2 h.2.1 a i.toNatClampNeg x.toInt8.toInt32 a))
      first | (rw [e9]; done) | (rw [e9]; rfl)
    · exact kk.1.elim
  · exact kk.1.elim
theorem so_astL (hx : p.tables.exec = Jvm.exec) (hb : c.code = cc) (hK : va_K D cl (xtys cA) s) (hN : ∀ f, rn f Q0 → xG p l e R s m args below meth c Q E ad cA D cl A r0 nL mc ms fin finS f) (hdg : decode cc pc = .ok (.lastore, 1)) (kk : xwo E rc rn d Q0 (xastL (pc + 1) ls st h)) : xG p l e R s m args below meth c Q E ad cA D cl A r0 nL mc ms fin finS (pc, ls, st, h) := by
  unfold xastL at kk
  split at kk
  · rename_i x i a rst
    split at kk
    · rename_i n rs ha
      intro cells slots ws H locs lsC stC h1 h2 hrel
      obtain ⟨⟨hW, hm⟩, hP, hD, hS, hl, hst⟩ := hrel
      obtain ⟨_, _, rfl, rfl, _, _, rfl, rfl, _, _, rfl, ⟨q, hq, rfl⟩, hst⟩ := hst
      obtain ⟨e9, g1, rfl⟩ := xW_at hW ha hq
      refine va_last hx hb hK hP hD hS a 2 g1 rfl kk.1 hdg (fun H1 locs1 hP1 hD1 hS1 => ?_)
      have hmon : ∀ e9 : va_E, xa ad (ws.set a (q, e9)) = xa ad ws := fun e9 => xa_set ad ws (e := e9) g1
      refine hN _ kk.2 cells slots _ H1 locs1 lsC _ h1 h2 ⟨⟨xW_set (h' := (h.1, h.2.1, x2 h.2.2.1 a i.toNatClampNeg x, h.2.2.2)) hW g1 rfl (fun _ _ => rfl) (fun i hi => ⟨rfl, x2_row _ _ _ _ hi, rfl⟩) (fun t ht => ?_), by rw [hmon]; exact hm⟩, hP1, hD1, hS1, by rw [hmon]; exact hl, by rw [hmon]; exact hst⟩
      cases ha.symm.trans ht
      have e9 := x2_updL h.2.2.1 a i.toNatClampNeg x
      show _ = Sum.inl (cA .long, n, Sum.inr (Sum.inl (x2 h.2.2.1 a i.toNatClampNeg x a)))
      first | (rw [e9]; done) | (rw [e9]; rfl)
    · exact kk.1.elim
  · exact kk.1.elim
theorem so_astF (hx : p.tables.exec = Jvm.exec) (hb : c.code = cc) (hK : va_K D cl (xtys cA) s) (hN : ∀ f, rn f Q0 → xG p l e R s m args below meth c Q E ad cA D cl A r0 nL mc ms fin finS f) (hdg : decode cc pc = .ok (.fastore, 1)) (kk : xwo E rc rn d Q0 (xastF (pc + 1) ls st h)) : xG p l e R s m args below meth c Q E ad cA D cl A r0 nL mc ms fin finS (pc, ls, st, h) := by
  unfold xastF at kk
  split at kk
  · rename_i x i a rst
    split at kk
    · rename_i n rs ha
      intro cells slots ws H locs lsC stC h1 h2 hrel
      obtain ⟨⟨hW, hm⟩, hP, hD, hS, hl, hst⟩ := hrel
      obtain ⟨_, _, rfl, rfl, _, _, rfl, rfl, _, _, rfl, ⟨q, hq, rfl⟩, hst⟩ := hst
      obtain ⟨e9, g1, rfl⟩ := xW_at hW ha hq
      refine va_fast hx hb hK hP hD hS a 3 g1 rfl kk.1 hdg (fun H1 locs1 hP1 hD1 hS1 => ?_)
      have hmon : ∀ e9 : va_E, xa ad (ws.set a (q, e9)) = xa ad ws := fun e9 => xa_set ad ws (e := e9) g1
      refine hN _ kk.2 cells slots _ H1 locs1 lsC _ h1 h2 ⟨⟨xW_set (h' := (h.1, h.2.1, h.2.2.1, x2 h.2.2.2 a i.toNatClampNeg x)) hW g1 rfl (fun _ _ => rfl) (fun i hi => ⟨rfl, rfl, x2_row _ _ _ _ hi⟩) (fun t ht => ?_), by rw [hmon]; exact hm⟩, hP1, hD1, hS1, by rw [hmon]; exact hl, by rw [hmon]; exact hst⟩
      cases ha.symm.trans ht
      have e9 := x2_updF h.2.2.2 a i.toNatClampNeg x
      show _ = Sum.inl (cA .float, n, Sum.inr (Sum.inr (Sum.inl (x2 h.2.2.2 a i.toNatClampNeg x a))))
      first | (rw [e9]; done) | (rw [e9]; rfl)
    · exact kk.1.elim
  · exact kk.1.elim
theorem so_aln (hx : p.tables.exec = Jvm.exec) (hb : c.code = cc) (hK : va_K D cl (xtys cA) s) (hN : ∀ f, rn f Q0 → xG p l e R s m args below meth c Q E ad cA D cl A r0 nL mc ms fin finS f) (hdg : decode cc pc = .ok (.arraylength, 1)) (kk : xwo E rc rn d Q0 (xaln (pc + 1) ls st h)) : xG p l e R s m args below meth c Q E ad cA D cl A r0 nL mc ms fin finS (pc, ls, st, h) := by
  unfold xaln at kk
  split at kk
  · rename_i a rst
    split at kk
    · rename_i ty n rs ha
      intro cells slots ws H locs lsC stC h1 h2 hrel
      obtain ⟨⟨hW, hm⟩, hP, hD, hS, hl, hst⟩ := hrel
      obtain ⟨_, _, rfl, ⟨q, hq, rfl⟩, hst⟩ := hst
      obtain ⟨e9, g1, g2⟩ := xW_at hW ha hq
      have kn := hN _ kk cells slots ws H locs lsC _ h1 h2 ⟨⟨hW, hm⟩, hP, hD, hS, hl, ⟨_, _, rfl, rfl, hst⟩⟩
      unfold xce at g2
      split at g2
      · rename_i he; cases he; subst g2; exact va_alen hx hb hK hP a 0 g1 rfl rfl hdg kn
      · rename_i he; cases he; subst g2; exact va_alen hx hb hK hP a 1 g1 rfl rfl hdg kn
      · rename_i he; cases he; subst g2; exact va_alen hx hb hK hP a 2 g1 rfl rfl hdg kn
      · rename_i he; cases he; subst g2; exact va_alen hx hb hK hP a 3 g1 rfl rfl hdg kn
      · rename_i he; cases he; obtain ⟨f, rfl, g3⟩ := g2; exact va_alen hx hb hK hP a 4 g1 rfl rfl hdg kn
      · exact g2.elim
      · rename_i he; cases he
    · exact kk.1.elim
  · exact kk.1.elim
theorem so_new (hx : p.tables.exec = Jvm.exec) (hb : c.code = cc) (hts : ∀ w ∈ TB, w.before args s = true) (hCL : xCL E cl TB) (hown : s.vm.findClass own = some m.cls) (hK : va_K D cl (xtys cA) s) (hA : ∀ q, s.heap.size ≤ q → A q) (hlen : ∀ f : xF, rn f Q0 → f.2.2.2.1.length ≤ fin ∧ xsz E f.2.2.2.1 ≤ finS) (hfin : fin ≤ xt0) (hRc : R.cells = mc) (hRs : R.slots = ms) (hN : ∀ f, rn f Q0 → xG p l e R s m args below meth c Q E ad cA D cl A r0 nL mc ms fin finS f) {ci idx : Nat} {r : vw_C} (hr : cl[ci]? = some r) (hlk : Cond.classLink own idx r.1 ∈ TB) (hdg : decode cc pc = .ok (.new idx, 3))
    (kk : xwo E rc rn d Q0 (xnew E (pc + 3) [ci] ls st h)) : xG p l e R s m args below meth c Q E ad cA D cl A r0 nL mc ms fin finS (pc, ls, st, h) := by
  have kk : rn (pc + 3, ls, .ref h.1.length :: st, h.1 ++ [.inr (ci, (E.2.1 ci).map fun _ => none)], xclr h.2 h.1.length) Q0 := kk
  obtain ⟨hl1, hl2⟩ := hlen _ kk
  have hl1 : (h.1 ++ [Sum.inr (ci, (E.2.1 ci).map fun _ => none)]).length ≤ fin := hl1
  have hl2 : xsz E (h.1 ++ [Sum.inr (ci, (E.2.1 ci).map fun _ => none)]) ≤ finS := hl2
  rw [xsz_app] at hl2
  rw [List.length_append] at hl1
  have hone : xsz E [Sum.inr (ci, (E.2.1 ci).map fun _ => none)] = (E.2.1 ci).length := by simp [xsz, xs1]
  rw [hone] at hl2
  simp only [List.length_cons, List.length_nil] at hl1
  obtain ⟨t1, t2, t3, t4, t5, t6, t7⟩ := hCL _ r hr
  intro cells slots ws H locs lsC stC h1 h2 hrel
  obtain ⟨⟨hW, hm⟩, hP, hD, hS, hl, hst⟩ := hrel
  have h1 : cells + fin ≤ mc + h.1.length := h1
  have h2 : slots + finS ≤ ms + xsz E h.1 := h2
  refine va_new (C := r.1) (T := r.2.1) (N := r.2.2) (fs := (E.2.1 ci).map defaultValue) hx hb hts t1 (fun k => (E.2.1 ci).getD k .int) t3 hown (hts _ hlk) (hts _ t5) (hts _ t6) hK hP hD hS hA hr (fun j hj => ?_) (by rw [hRc]; omega) (by rw [hRs, ← t2]; omega) hdg (fun q H1 hP1 hD1 hS1 => ?_)
  · have hj2 : j < (E.2.1 ci).length := by rw [t2]; exact hj
    simp [vp_V, List.getD_eq_getElem?_getD, hj2]
  · have hmon := xmon_app ad ws [(q, Sum.inr (ci, (E.2.1 ci).map defaultValue))]
    have hW1 : xW E ad cA (h.1 ++ [Sum.inr (ci, (E.2.1 ci).map fun _ => none)], xclr h.2 h.1.length) (ws ++ [(q, Sum.inr (ci, (E.2.1 ci).map defaultValue))]) := by
      refine xW_push hW (by omega) (fun i hi => xclr_row _ _ hi) ⟨_, rfl, by simp, by simp, fun k ty hk => ?_⟩
      refine ⟨defaultValue ty, by rw [List.getElem?_map, hk]; rfl, ?_⟩
      have hnd := t7 ty (List.mem_of_getElem? hk)
      have hrk : xrv ((E.2.1 ci).map fun _ => (none : Option Nat))[k]? = .null := by rw [List.getElem?_map, hk]; rfl
      cases ty <;> first | exact absurd rfl hnd | (show _ = _; simp only [xget, xclr, x0_at, defaultValue]) | (show xv _ (xrv _) _; rw [hrk]; rfl)
    rw [← t2]
    refine hN _ kk (cells + 1) (slots + (E.2.1 ci).length) _ H1 locs lsC _ ?_ ?_ ⟨⟨hW1, fun k a z => hmon _ _ (hm k a z)⟩, hP1, hD1, hS1, xls_mono hmon hl, ⟨_, _, rfl, ⟨q, ?_, rfl⟩, xva_mono hmon hst⟩⟩
    · show cells + 1 + fin ≤ mc + (h.1 ++ [_]).length
      rw [List.length_append, List.length_cons, List.length_nil]; omega
    · show slots + _ + finS ≤ ms + xsz E (h.1 ++ [_])
      rw [xsz_app, hone]; omega
    · exact xa_of (show h.1.length < xt0 by omega) (by rw [← hW.1, List.getElem?_append_right (Nat.le_refl _), Nat.sub_self]; rfl)
theorem so_nar (hx : p.tables.exec = Jvm.exec) (hb : c.code = cc) (hts : ∀ w ∈ TB, w.before args s = true) (hK : va_K D cl (xtys cA) s) (hA : ∀ q, s.heap.size ≤ q → A q) (hAC : ∀ a : ArrayType, xoka (xty a) = true → Cond.arrayClass (xty a) ∈ TB) (hlen : ∀ f : xF, rn f Q0 → f.2.2.2.1.length ≤ fin ∧ xsz E f.2.2.2.1 ≤ finS) (hfin : fin ≤ xt0) (hRc : R.cells = mc) (hRs : R.slots = ms) (hN : ∀ f, rn f Q0 → xG p l e R s m args below meth c Q E ad cA D cl A r0 nL mc ms fin finS f) {at_ : ArrayType} (hdg : decode cc pc = .ok (.newarray at_, 2))
    (kk : xwo E rc rn d Q0 (xnar (xty at_) (pc + 2) ls st h)) : xG p l e R s m args below meth c Q E ad cA D cl A r0 nL mc ms fin finS (pc, ls, st, h) := by
  unfold xnar at kk
  split at kk
  · rename_i n rst
    cases hok : xoka (xty at_) with
    | false => rw [hok] at kk; exact kk.1.elim
    | true =>
      rw [hok] at kk
      obtain ⟨⟨hn0, hn1⟩, kk⟩ := kk
      have kk : rn (pc + 2, ls, .ref h.1.length :: rst, h.1 ++ [.inl (xty at_, n.toNatClampNeg, [])], xclr h.2 h.1.length) Q0 := kk
      obtain ⟨hl1, hl2⟩ := hlen _ kk
      have hl1 : (h.1 ++ [Sum.inl (xty at_, n.toNatClampNeg, [])]).length ≤ fin := hl1
      have hl2 : xsz E (h.1 ++ [Sum.inl (xty at_, n.toNatClampNeg, [])]) ≤ finS := hl2
      rw [xsz_app] at hl2
      rw [List.length_append] at hl1
      have hone : xsz E [Sum.inl (xty at_, n.toNatClampNeg, [])] = n.toNatClampNeg := by simp [xsz, xs1]
      rw [hone] at hl2
      simp only [List.length_cons, List.length_nil] at hl1
      intro cells slots ws H locs lsC stC h1 h2 hrel
      obtain ⟨⟨hW, hm⟩, hP, hD, hS, hl, hst⟩ := hrel
      obtain ⟨_, rstC, rfl, rfl, hst⟩ := hst
      have h1 : cells + fin ≤ mc + h.1.length := h1
      have h2 : slots + finS ≤ ms + xsz E h.1 := h2
      have fin9 : ∀ (q : Nat) (H1 : Heap) (a0 : vp_A), va_P D cl (ws ++ [(q, .inl (cA (xty at_), a0))]) H1 → va_D A (ws ++ [(q, .inl (cA (xty at_), a0))]) → va_S A s.heap H1 locs → xce E cA (xa ad (ws ++ [(q, .inl (cA (xty at_), a0))])) (.inl (xty at_, n.toNatClampNeg, [])) h.1.length (xclr h.2 h.1.length) (.inl (cA (xty at_), a0)) → W p l e R s m args below meth c H1 locs (cells + 1) (slots + n.toNatClampNeg) Q (F0 m (pc + 2) lsC (.ref q :: rstC)) := by
        intro q H1 a0 hP1 hD1 hS1 hce
        have hmon := xmon_app ad ws [(q, Sum.inl (cA (xty at_), a0))]
        refine hN _ kk (cells + 1) (slots + n.toNatClampNeg) _ H1 locs lsC _ ?_ ?_ ⟨⟨xW_push hW (by omega) (fun i hi => xclr_row _ _ hi) hce, fun k a z => hmon _ _ (hm k a z)⟩, hP1, hD1, hS1, xls_mono hmon hl, ⟨_, _, rfl, ⟨q, ?_, rfl⟩, xva_mono hmon hst⟩⟩
        · show cells + 1 + fin ≤ mc + (h.1 ++ [_]).length
          rw [List.length_append, List.length_cons, List.length_nil]; omega
        · show slots + _ + finS ≤ ms + xsz E (h.1 ++ [_])
          rw [xsz_app, hone]; omega
        · exact xa_of (show h.1.length < xt0 by omega) (by rw [← hW.1, List.getElem?_append_right (Nat.le_refl _), Nat.sub_self]; rfl)
      have hac := hts _ (hAC at_ hok)
      cases at_ with
      | int =>
        refine va_newa (a0 := (n.toNatClampNeg, .inl (fun _ => 0))) (ty := .int) (atype := .int) hx hb hac rfl hK hP hD hS hA (fun _ => rfl) hn0 rfl (by show _ * 4 ≤ _; omega) (by rw [hRc]; omega) (by rw [hRs]; omega) hdg (fun q c9 H1 hK1 hP1 hD1 hS1 => ?_)
        have e1 : s.vm.findClass ("[" ++ (FieldType.int).toString) = some c9 := (hK1.2 5 _ rfl).2
        have e2 : s.vm.findClass ("[" ++ (FieldType.int).toString) = some (cA .int) := (hK.2 0 _ rfl).2
        cases e1.symm.trans e2
        exact fin9 q H1 _ hP1 hD1 hS1 (by show _ = _; rw [show (xclr h.2 h.1.length).1 h.1.length = fun _ => 0 from x0_at _ _ _]; rfl)
      | byte =>
        refine va_newa (a0 := (n.toNatClampNeg, .inl (fun _ => 0))) (ty := .byte) (atype := .byte) hx hb hac rfl hK hP hD hS hA (fun _ => rfl) hn0 rfl (by show _ * 1 ≤ _; omega) (by rw [hRc]; omega) (by rw [hRs]; omega) hdg (fun q c9 H1 hK1 hP1 hD1 hS1 => ?_)
        have e1 : s.vm.findClass ("[" ++ (FieldType.byte).toString) = some c9 := (hK1.2 5 _ rfl).2
        have e2 : s.vm.findClass ("[" ++ (FieldType.byte).toString) = some (cA .byte) := (hK.2 1 _ rfl).2
        cases e1.symm.trans e2
        exact fin9 q H1 _ hP1 hD1 hS1 (by show _ = _; rw [show (xclr h.2 h.1.length).1 h.1.length = fun _ => 0 from x0_at _ _ _]; rfl)
      | long =>
        refine va_newa (a0 := (n.toNatClampNeg, .inr (.inl (fun _ => 0)))) (ty := .long) (atype := .long) hx hb hac rfl hK hP hD hS hA (fun _ => rfl) hn0 rfl (by show _ * 8 ≤ _; omega) (by rw [hRc]; omega) (by rw [hRs]; omega) hdg (fun q c9 H1 hK1 hP1 hD1 hS1 => ?_)
        have e1 : s.vm.findClass ("[" ++ (FieldType.long).toString) = some c9 := (hK1.2 5 _ rfl).2
        have e2 : s.vm.findClass ("[" ++ (FieldType.long).toString) = some (cA .long) := (hK.2 2 _ rfl).2
        cases e1.symm.trans e2
        exact fin9 q H1 _ hP1 hD1 hS1 (by show _ = _; rw [show (xclr h.2 h.1.length).2.1 h.1.length = fun _ => 0 from x0_at _ _ _]; rfl)
      | float =>
        refine va_newa (a0 := (n.toNatClampNeg, .inr (.inr (.inl (fun _ => 0))))) (ty := .float) (atype := .float) hx hb hac rfl hK hP hD hS hA (fun _ => rfl) hn0 rfl (by show _ * 4 ≤ _; omega) (by rw [hRc]; omega) (by rw [hRs]; omega) hdg (fun q c9 H1 hK1 hP1 hD1 hS1 => ?_)
        have e1 : s.vm.findClass ("[" ++ (FieldType.float).toString) = some c9 := (hK1.2 5 _ rfl).2
        have e2 : s.vm.findClass ("[" ++ (FieldType.float).toString) = some (cA .float) := (hK.2 3 _ rfl).2
        cases e1.symm.trans e2
        exact fin9 q H1 _ hP1 hD1 hS1 (by show _ = _; rw [show (xclr h.2 h.1.length).2.2 h.1.length = fun _ => 0 from x0_at _ _ _]; rfl)
      | _ => cases hok
  · exact kk.1.elim
end XSH
end
section
/-! calls -/
abbrev xNM : Type := String × Nat × MethodName × String
def xnm (q : xNM) : Cond := .methodLinkNest q.1 q.2.1 q.2.2.1 q.2.2.2
abbrev xTS : Type := String × Nat × String × Nat
/-- the texts, and what the JDK's own fields hold -/
def xTe (nS : Nat) (lenS : List Nat) (bytS : List (List Int32)) (ad adV : Nat → Nat) (A : Nat → Prop) (U : State) (H : Heap) : Prop := vk_S nS lenS bytS ad adV A U H ∧ va_Z "java/lang/String" "COMPACT_STRINGS" "Z" (.int 1) A U H ∧ va_Zq "jdk/internal/util/Preconditions" "SIOOBE_FORMATTER" "Ljava/util/function/BiFunction;" A U H
theorem xTe.moved {nS : Nat} {lenS : List Nat} {bytS : List (List Int32)} {ad adV : Nat → Nat} {A : Nat → Prop} {u U : State} {H : Heap} (hvm : u.vm.Alike U.vm) (h : xTe nS lenS bytS ad adV A u H) : xTe nS lenS bytS ad adV A U H := ⟨vk_S.moved hvm h.1, va_Z.moved hvm h.2.1, va_Zq.moved hvm h.2.2⟩
theorem xTe.kept {nS : Nat} {lenS : List Nat} {bytS : List (List Int32)} {ad adV : Nat → Nat} {A : Nat → Prop} {U : State} {H H1 : Heap} (h : xTe nS lenS bytS ad adV A U H) (hq : ∀ a : Nat, a < H.size → ¬ A a → H1[a]? = H[a]?) : xTe nS lenS bytS ad adV A U H1 := ⟨h.1.kept hq, h.2.1.kept hq, h.2.2.kept hq⟩
theorem xTe.narrow {nS : Nat} {lenS : List Nat} {bytS : List (List Int32)} {ad adV : Nat → Nat} {A B : Nat → Prop} {U : State} {H : Heap} (h : xTe nS lenS bytS ad adV A U H) (hAB : ∀ q, B q → A q) : xTe nS lenS bytS ad adV B U H := ⟨h.1.narrow hAB, h.2.1.narrow hAB, h.2.2.narrow hAB⟩
/-- what stays true of the machine's tables and texts: links to private members of nest mates, the texts -/
def xEv (TF : List xNF) (TM : List xNM) (TS : List xTS) (nS : Nat) (lenS : List Nat) (bytS : List (List Int32)) (ad adV : Nat → Nat) (A : Nat → Prop) (U : State) : Prop :=
  (∀ q ∈ TF, va_Nw (xnf q) U) ∧ (∀ q ∈ TM, va_Nw (xnm q) U) ∧ xTe nS lenS bytS ad adV A U U.heap ∧ (∀ q ∈ TS, vk_R q.1 q.2.1 q.2.2.1 (ad q.2.2.2) U) ∧ (Cond.arrayOver (.array .float)).before #[] U = true
theorem xEv.calling {TF : List xNF} {TM : List xNM} {TS : List xTS} {nS : Nat} {lenS : List Nat} {bytS : List (List Int32)} {ad adV : Nat → Nat} {A : Nat → Prop} {U : State} (k : xEv TF TM TS nS lenS bytS ad adV A U) (g : JFrame) (mk : MethodId) (a : Array Value) : xEv TF TM TS nS lenS bytS ad adV A (U.calling g mk a) :=
  ⟨fun q hq => va_Nw.same rfl rfl (k.1 q hq), fun q hq => va_Nw.same rfl rfl (k.2.1 q hq), xTe.moved (u := U) (U := U.calling g mk a) (Vm.Alike.refl U.vm) k.2.2.1, fun q hq => vk_R.same (u := U) rfl (k.2.2.2.1 q hq), k.2.2.2.2⟩
theorem xEv.warm {TF : List xNF} {TM : List xNM} {TS : List xTS} {nS : Nat} {lenS : List Nat} {bytS : List (List Int32)} {ad adV : Nat → Nat} {A B : Nat → Prop} {s U : State} {H : Heap} {locs : List Loc} (k : xEv TF TM TS nS lenS bytS ad adV A s) (hW : s.WarmedH U.vm) (hU : U.heap = H) (hS : va_S A s.heap H locs) (hAB : ∀ q, B q → A q) : xEv TF TM TS nS lenS bytS ad adV B U :=
  ⟨fun q hq => va_Nw.warmF hW (k.1 q hq), fun q hq => va_Nw.warmM hW (k.2.1 q hq), by rw [hU]; exact ((xTe.moved hW.alike k.2.2.1).kept hS.2.1).narrow hAB, fun q hq => vk_R.warm hW (k.2.2.2.1 q hq), arrayOver_alikeB hW.alike k.2.2.2.2⟩
/-- a method's start -/
def xPc (TF : List xNF) (TM : List xNM) (TS : List xTS) (nS : Nat) (lenS : List Nat) (bytS : List (List Int32)) (ad adV : Nat → Nat) (cA : FieldType → ClassId) (D : va_G) (cl : List vw_C) (avC : List Value) (ws : va_W) (sz : Nat) : Array Value → State → Prop :=
  va_Pc avC (fun U => U.heap.size = sz ∧ va_P D cl ws U.heap ∧ va_K D cl (xtys cA) U ∧ va_D (fun _ => True) ws ∧ xEv TF TM TS nS lenS bytS ad adV (va_A ws sz) U)
/-- a method's end -/
def xQc (E : xE) (ad : Nat → Nat) (cA : FieldType → ClassId) (D : va_G) (cl : List vw_C) (ws0 : va_W) (sz : Nat) (v : Option Value) (h' : xH) : Array Value → State → Outcome → State → Prop := fun _ st oc t =>
  (∃ (vc : Option Value) (ws' : va_W), oc = .returned vc ∧ xvo (xa ad ws') v vc ∧ xW E ad cA h' ws' ∧ xmon (xa ad ws0) (xa ad ws') ∧ va_P D cl ws' t.heap ∧ va_K D cl (xtys cA) t ∧ va_D (va_A ws0 sz) ws') ∧ va_F (va_A ws0 sz) st t
def xws (TB : List Cond) (M : xM) : List Cond := Cond.code M.1 M.2.1 M.2.2.1 M.2.2.2.1 :: TB
/-- what the machine does when a method is called, as it is on paper -/
def xMet (l : Launch) (TB : List Cond) (TF : List xNF) (TM : List xNM) (TS : List xTS) (nS : Nat) (lenS : List Nat) (bytS : List (List Int32)) (E : xE) (ad adV : Nat → Nat) (cA : FieldType → ClassId) (D : va_G) (cl : List vw_C) (d : Nat) (M : xM) (av : List Value) (h : xH) (v : Option Value) (h' : xH) : Prop :=
  (xflat av).length ≤ M.2.2.1 → h'.1.length ≤ xt0 → ∀ (ws : va_W) (avC : List Value) (sz : Nat), xW E ad cA h ws → xva (xa ad ws) av avC → Met l M.1 (xws TB M) (xroom d (h'.1.length - h.1.length) (xsz E h'.1 - xsz E h.1)) (xPc TF TM TS nS lenS bytS ad adV cA D cl avC ws sz) (xQc E ad cA D cl ws sz v h') (h'.1.length - h.1.length) (xsz E h'.1 - xsz E h.1) (va_A ws sz)
/-- what the tables say of a method that is called with n values -/
def xMok (TB : List Cond) (M : xM) (n : Nat) : Prop := Cond.code M.1 M.2.1 M.2.2.1 M.2.2.2.1 ∈ TB ∧ Cond.initialized M.1.cls ∈ TB ∧ (M.1.cls ≠ "java/lang/invoke/MethodHandle" ∧ M.1.cls ≠ "java/lang/invoke/VarHandle" ∧ (parseMethodDescriptor M.1.desc).map (fun d => d.parameters.length) = some n) ∧ M.2.2.1 ≤ 40
theorem xgood {TB : List Cond} {M : xM} {n : Nat} (hgd : ∀ w ∈ TB, goodWord w = true) (hM : xMok TB M n) : GoodIn TB (xws TB M) := by
  intro w hw
  rcases List.mem_cons.mp hw with rfl | hw
  · exact ⟨hM.1, good_of_word (hgd _ hM.1)⟩
  · exact ⟨hw, good_of_word (hgd _ hw)⟩
section XSC
variable {p : Program} {l : Launch} {e : Env} {R : Room} {s : State} {m : MethodId} {args : Array Value} {below : List Frame} {meth : Method} {c : Code} {Q : State → Prop}
variable {E : xE} {ad adV : Nat → Nat} {cA : FieldType → ClassId} {D : va_G} {cl : List vw_C} {A : Nat → Prop} {r0 : Nat → Option Nat} {nL mc ms fin finS : Nat}
variable {rc : Nat → xM → xF → xP → Prop} {rn : xF → xP → Prop} {d : Nat} {Q0 : xP} {pc : Nat} {ls : xL} {st : List Value} {h : xH} {cc : ByteArray} {TB : List Cond} {TF : List xNF} {TM : List xNM} {TS : List xTS} {nS : Nat} {lenS : List Nat} {bytS : List (List Int32)} {own : String}
/-- behind a call -/
theorem xcallW {cells slots mc1 ms1 : Nat} {ws : va_W} {H : Heap} {locs : List Loc} {lsC : Array Slot} {st0 rest : List Value} {v : Option Value} {h' : xH} {a : Array Value} (hr : va_Run p l e R s m args below meth c H locs cells slots mc1 ms1 (F0 m pc lsC st0) rest (xQc E ad cA D cl ws H.size v h' a) (va_A ws H.size)) (hS : va_S A s.heap H locs) (hAB : ∀ q, va_A ws H.size q → A q)
    (kk : ∀ (vc : Option Value) (ws' : va_W) (H1 : Heap) (locs1 : List Loc), xvo (xa ad ws') v vc → xW E ad cA h' ws' → xmon (xa ad ws) (xa ad ws') → va_P D cl ws' H1 → va_D A ws' → va_S A s.heap H1 locs1 → W p l e R s m args below meth c H1 locs1 (cells + mc1) (slots + ms1) Q (F0 m (pc + 3) lsC (vc.toList ++ rest))) : W p l e R s m args below meth c H locs cells slots Q (F0 m pc lsC st0) := by
  intro T hT X
  obtain ⟨v9, st₀, t, T', L, h0, X', hL, e1, e2, ⟨⟨vc, ws', hv, hq1, hq2, hq3, hq4, hq5, hq6⟩, hz, hk⟩, stp⟩ := hr T hT X
  cases hv
  rw [h0] at hz hk
  obtain ⟨t2, a1, b1⟩ := kk v9 ws' T'.heap (locs ++ L) hq1 hq2 hq3 (by rw [e1]; exact hq4) (hq6.weaken (fun _ _ _ z => hAB _ z))
    ⟨Nat.le_trans hS.1 (by rw [e1]; exact hz), fun q h1 h2 => by rw [e1, hk q (Nat.lt_of_lt_of_le h1 hS.1) (fun z => h2 (hAB q z))]; exact hS.2.1 q h1 h2, fun q hq => by
      rcases List.mem_append.mp hq with z | z
      · exact hS.2.2 q z
      · exact hAB _ (hL q z)⟩ T' rfl X'
  exact ⟨t2, stp t2 a1, b1⟩
theorem xAB {ws : va_W} {H : Heap} {locs : List Loc} (hD : va_D A ws) (hS : va_S A s.heap H locs) (hA : ∀ q, s.heap.size ≤ q → A q) : ∀ q, va_A ws H.size q → A q := by
  intro q z
  rcases z with ⟨k, e9, z⟩ | z
  · exact hD.2 k _ z
  · exact hA q (Nat.le_trans hS.1 z)
theorem xpre {ws : va_W} {H : Heap} {locs : List Loc} {avC : List Value} (hP : va_P D cl ws H) (hD : va_D A ws) (hS : va_S A s.heap H locs) (hA : ∀ q, s.heap.size ≤ q → A q) (hK : va_K D cl (xtys cA) s) (hEv : xEv TF TM TS nS lenS bytS ad adV A s) : PreS s H (xPc TF TM TS nS lenS bytS ad adV cA D cl avC ws H.size) avC :=
  ⟨fun a U g mk q => by obtain ⟨q0, q1, qP, qK, qD, qE⟩ := q; exact ⟨q0, q1, qP, va_K.moved (u := U) (U := U.calling g mk a) (Vm.Alike.refl U.vm) qK, qD, qE.calling g mk a⟩, fun U hU hW => ⟨rfl, by rw [hU], by rw [hU]; exact hP, va_K.moved hW.alike hK, hD.weaken (fun _ _ _ _ => trivial), hEv.warm hW hU hS (xAB hD hS hA)⟩⟩
/-- the whole of a call, but for its kind -/
theorem so_callG (hN : ∀ f, rn f Q0 → xG p l e R s m args below meth c Q E ad cA D cl A r0 nL mc ms fin finS f) (hA : ∀ q, s.heap.size ≤ q → A q) (hlen : ∀ f : xF, rn f Q0 → f.2.2.2.1.length ≤ fin ∧ xsz E f.2.2.2.1 ≤ finS) (hRc : R.cells = mc) (hRs : R.slots = ms)
    {y : Nat} {av rest : List Value} (hmono : ∀ (d : Nat) (M : xM) (f : xF) (v : Option Value) (h' : xH), rc d M f (fun v' h2 => v' = v ∧ h2 = h') → f.2.2.2.1.length ≤ h'.1.length ∧ xsz E f.2.2.2.1 ≤ xsz E h'.1) (hdet : ∀ (d : Nat) (M : xM) (f : xF) (P : xP), rc d M f P → ∃ v h', P v h' ∧ rc d M f (fun v' h2 => v' = v ∧ h2 = h'))
    (run : ∀ (d' : Nat) (v : Option Value) (h' : xH), d = d' + 1 → h'.1.length ≤ fin → rc d' (E.1 y) (0, xent (E.1 y) av, [], h) (fun v' h2 => v' = v ∧ h2 = h') → ∀ (cells slots : Nat) (ws : va_W) (H : Heap) (locs : List Loc) (lsC : Array Slot) (stC : List Value), cells + (h'.1.length - h.1.length) ≤ R.cells → slots + (xsz E h'.1 - xsz E h.1) ≤ R.slots → xRel E ad cA D cl A r0 s nL (pc, ls, st, h) ws H locs lsC stC → ∃ (restC : List Value) (a : Array Value), xva (xa ad ws) rest restC ∧ va_Run p l e R s m args below meth c H locs cells slots (h'.1.length - h.1.length) (xsz E h'.1 - xsz E h.1) (F0 m pc lsC stC) restC (xQc E ad cA D cl ws H.size v h' a) (va_A ws H.size))
    (kk : xwo E rc rn d Q0 (.inr (.inr (.inr (.inl (y, av, pc + 3, ls, rest, h)))))) : xG p l e R s m args below meth c Q E ad cA D cl A r0 nL mc ms fin finS (pc, ls, st, h) := by
  cases d with
  | zero => exact kk.elim
  | succ d' =>
    have kk : rc d' (E.1 y) (0, xent (E.1 y) av, [], h) (fun v h' => rn (pc + 3, ls, v.toList ++ rest, h') Q0) := kk
    obtain ⟨v, h', hnext, hrun⟩ := hdet _ _ _ _ kk
    obtain ⟨hm1, hm2⟩ := hmono _ _ _ _ _ hrun
    have hm1 : h.1.length ≤ h'.1.length := hm1
    have hm2 : xsz E h.1 ≤ xsz E h'.1 := hm2
    obtain ⟨hl1, hl2⟩ := hlen _ hnext
    have hl1 : h'.1.length ≤ fin := hl1
    have hl2 : xsz E h'.1 ≤ finS := hl2
    intro cells slots ws H locs lsC stC h1 h2 hrel
    have h1 : cells + fin ≤ mc + h.1.length := h1
    have h2 : slots + finS ≤ ms + xsz E h.1 := h2
    obtain ⟨restC, a, hrC, hgo⟩ := run d' v h' rfl hl1 hrun cells slots ws H locs lsC stC (by rw [hRc]; omega) (by rw [hRs]; omega) hrel
    obtain ⟨⟨hW, hm⟩, hP, hD, hS, hl, hst⟩ := hrel
    refine xcallW hgo hS (xAB hD hS hA) (fun vc ws' H1 locs1 q1 q2 q3 q4 q5 q6 => ?_)
    refine hN _ hnext _ _ ws' H1 locs1 lsC _ (show _ + fin ≤ mc + h'.1.length by omega) (show _ + finS ≤ ms + xsz E h'.1 by omega) ⟨⟨q2, fun k a z => q3 _ _ (hm k a z)⟩, q4, q5, q6, xls_mono q3 hl, ?_⟩
    cases v with
    | none => rw [show vc = none from q1]; exact xva_mono q3 hrC
    | some v9 =>
      obtain ⟨u, rfl, hu⟩ := q1
      exact ⟨u, restC, rfl, hu, xva_mono q3 hrC⟩
theorem so_cls (hx : p.tables.exec = Jvm.exec) (hb : c.code = cc) (hml : c.maxLocals = nL) (hts : ∀ w ∈ TB, w.before args s = true) (hgd : ∀ w ∈ TB, goodWord w = true) (hown : s.vm.findClass own = some m.cls) (hK : va_K D cl (xtys cA) s) (hA : ∀ q, s.heap.size ≤ q → A q) (hEv : xEv TF TM TS nS lenS bytS ad adV A s) (hlen : ∀ f : xF, rn f Q0 → f.2.2.2.1.length ≤ fin ∧ xsz E f.2.2.2.1 ≤ finS) (hR : R = xroom d mc ms)
    (hmono : ∀ (d : Nat) (M : xM) (f : xF) (v : Option Value) (h' : xH), rc d M f (fun v' h2 => v' = v ∧ h2 = h') → f.2.2.2.1.length ≤ h'.1.length ∧ xsz E f.2.2.2.1 ≤ xsz E h'.1) (hdet : ∀ (d : Nat) (M : xM) (f : xF) (P : xP), rc d M f P → ∃ v h', P v h' ∧ rc d M f (fun v' h2 => v' = v ∧ h2 = h')) (hfin : fin ≤ xt0)
    (hMet : ∀ (d : Nat) (y : Nat) (av : List Value) (h : xH) (v : Option Value) (h' : xH), rc d (E.1 y) (0, xent (E.1 y) av, [], h) (fun v' h2 => v' = v ∧ h2 = h') → xMet l TB TF TM TS nS lenS bytS E ad adV cA D cl d (E.1 y) av h v h') (hN : ∀ f, rn f Q0 → xG p l e R s m args below meth c Q E ad cA D cl A r0 nL mc ms fin finS f) {y n idx : Nat} (hM : xMok TB (E.1 y) n) (hlk : Cond.methodLink own idx (E.1 y).1 ∈ TB) (hst : Cond.static (E.1 y).1 ∈ TB) (hdg : decode cc pc = .ok (.invokestatic idx, 3))
    (kk : xwo E rc rn d Q0 (xcl E (pc + 3) ls st h y n)) : xG p l e R s m args below meth c Q E ad cA D cl A r0 nL mc ms fin finS (pc, ls, st, h) := by
  unfold xcl at kk
  split at kk
  · rename_i av rst hpop
    cases hb8 : (Nat.ble (xcat rst) 8 && Nat.ble (xflat av).length (E.1 y).2.2.1) with
    | false => rw [hb8] at kk; exact kk.1.elim
    | true =>
      rw [hb8] at kk
      rw [Bool.and_eq_true] at hb8
      have hc8 := Nat.le_of_ble_eq_true hb8.1
      have hfl := Nat.le_of_ble_eq_true hb8.2
      refine so_callG hN hA hlen (by rw [hR]; rfl) (by rw [hR]; rfl) hmono hdet (fun d9 v h' hd9 hle hrun cells slots ws H locs lsC stC hc1 hs1 hrel => ?_) kk
      obtain ⟨⟨hW, hm⟩, hP, hD, hS, hl, hst9⟩ := hrel
      obtain ⟨as, e1, e2, e3⟩ := xpop_spec (r := xa ad ws) n st [] av rst hpop
      rw [List.append_nil] at e1
      subst e1
      have hst9 : xva (xa ad ws) st stC := hst9
      rw [e3] at hst9
      obtain ⟨wa, wb, rfl, g1, g2⟩ := xva_split hst9
      have g1 := xva_rev g1
      rw [List.reverse_reverse] at g1
      subst hd9
      refine ⟨wb, wa.reverse.toArray, g2, va_runS (As := wa.reverse) (rest := wb) ⟨hx, hb, hml, hown, hts⟩ (hMet _ _ _ _ _ _ hrun hfl (Nat.le_trans hle hfin) ws wa.reverse H.size hW g1) (va_cwS n hts (fun w hw => ?_) rfl rfl rfl hM.2.2.1 (by
        rw [hR]
        show d9 + 8 + 1 ≤ d9 + 1 + 8 ∧ 8 + (_ + 11) + (60 * d9 + 400) ≤ 60 * (d9 + 1) + 400
        have := hM.2.2.2
        omega)) (xpre hP hD hS hA hK hEv) rfl (by rw [xva_len g1, e2]) hl.1 (by show wa ++ wb = _; rw [List.reverse_reverse]) (by show 2 * 0 + xcat wb ≤ 8; rw [xva_cat g2]; omega) hdg ⟨hc1, hs1⟩⟩
      have hg := xgood hgd hM
      unfold va_wsS at hw
      rcases List.mem_append.mp hw with z | z
      · simp only [List.mem_cons, List.not_mem_nil, or_false] at z
        rcases z with rfl | rfl | rfl
        · exact ⟨hlk, good_of_word (hgd _ hlk)⟩
        · exact ⟨hst, good_of_word (hgd _ hst)⟩
        · exact ⟨hM.2.1, good_of_word (hgd _ hM.2.1)⟩
      · exact hg w z
  · exact kk.1.elim
theorem so_clv (hx : p.tables.exec = Jvm.exec) (hb : c.code = cc) (hml : c.maxLocals = nL) (hts : ∀ w ∈ TB, w.before args s = true) (hgd : ∀ w ∈ TB, goodWord w = true) (hown : s.vm.findClass own = some m.cls) (hK : va_K D cl (xtys cA) s) (hA : ∀ q, s.heap.size ≤ q → A q) (hEv : xEv TF TM TS nS lenS bytS ad adV A s) (hlen : ∀ f : xF, rn f Q0 → f.2.2.2.1.length ≤ fin ∧ xsz E f.2.2.2.1 ≤ finS) (hR : R = xroom d mc ms)
    (hmono : ∀ (d : Nat) (M : xM) (f : xF) (v : Option Value) (h' : xH), rc d M f (fun v' h2 => v' = v ∧ h2 = h') → f.2.2.2.1.length ≤ h'.1.length ∧ xsz E f.2.2.2.1 ≤ xsz E h'.1) (hdet : ∀ (d : Nat) (M : xM) (f : xF) (P : xP), rc d M f P → ∃ v h', P v h' ∧ rc d M f (fun v' h2 => v' = v ∧ h2 = h')) (hfin : fin ≤ xt0)
    (hMet : ∀ (d : Nat) (y : Nat) (av : List Value) (h : xH) (v : Option Value) (h' : xH), rc d (E.1 y) (0, xent (E.1 y) av, [], h) (fun v' h2 => v' = v ∧ h2 = h') → xMet l TB TF TM TS nS lenS bytS E ad adV cA D cl d (E.1 y) av h v h') (hN : ∀ f, rn f Q0 → xG p l e R s m args below meth c Q E ad cA D cl A r0 nL mc ms fin finS f) {y n ci idx : Nat} {r : vw_C} (hr : cl[ci]? = some r) (hM : xMok TB (E.1 y) n) (hC : (E.1 y).1.cls = r.1) (hlk : Cond.methodLink own idx (E.1 y).1 ∈ TB) (hin : Cond.instanceMethod (E.1 y).1 ∈ TB) (hse : Cond.selects r.1 (E.1 y).1 (E.1 y).1 ∈ TB) (hdg : decode cc pc = .ok (.invokevirtual idx, 3))
    (kk : xwo E rc rn d Q0 (xclv E (pc + 3) ls st h y n ci)) : xG p l e R s m args below meth c Q E ad cA D cl A r0 nL mc ms fin finS (pc, ls, st, h) := by
  unfold xclv at kk
  split at kk
  · rename_i av rst hpop
    cases hb8 : (Nat.ble (xcat rst) 8 && Nat.ble (xflat av).length (E.1 y).2.2.1 && xis E ci av h) with
    | false => rw [hb8] at kk; exact kk.1.elim
    | true =>
      rw [hb8] at kk
      rw [Bool.and_eq_true, Bool.and_eq_true] at hb8
      have hc8 := Nat.le_of_ble_eq_true hb8.1.1
      have hfl := Nat.le_of_ble_eq_true hb8.1.2
      have hci := hb8.2
      refine so_callG hN hA hlen (by rw [hR]; rfl) (by rw [hR]; rfl) hmono hdet (fun d9 v h' hd9 hle hrun cells slots ws H locs lsC stC hc1 hs1 hrel => ?_) kk
      obtain ⟨⟨hW, hm⟩, hP, hD, hS, hl, hst9⟩ := hrel
      obtain ⟨as, e1, e2, e3⟩ := xpop_spec (r := xa ad ws) (n + 1) st [] av rst hpop
      rw [List.append_nil] at e1
      subst e1
      have hst9 : xva (xa ad ws) st stC := hst9
      rw [e3] at hst9
      obtain ⟨wa, wb, rfl, g1, g2⟩ := xva_split hst9
      have g1 := xva_rev g1
      rw [List.reverse_reverse] at g1
      have hM9 := hMet _ _ _ _ _ _ hrun hfl (Nat.le_trans hle hfin) ws wa.reverse H.size hW g1
      unfold xis at hci
      split at hci
      · rename_i b as2 
        split at hci
        · rename_i c2 rf hbc
          have := Nat.eq_of_beq_eq_true hci
          subst this
          obtain ⟨u, us, g3, ⟨q, hq, rfl⟩, g5⟩ := g1
          obtain ⟨e9, g6, fs, rfl, -⟩ := xW_at hW hbc hq
          rw [g3] at hM9
          have g4 : wa = us.reverse ++ [.ref q] := by
            have := congrArg List.reverse g3
            rw [List.reverse_reverse, List.reverse_cons] at this
            exact this
          subst hd9
          refine ⟨wb, (Value.ref q :: us).toArray, g2, va_runV (As := us) (rest := wb) ⟨hx, hb, hml, hown, hts⟩ hM9 (cwV (C := r.1) n hts (fun w hw => ?_) rfl rfl rfl ⟨hC, hM.2.2.1⟩ (by
            rw [hR]
            show d9 + 8 + 1 ≤ d9 + 1 + 8 ∧ 8 + (_ + 11) + (60 * d9 + 400) ≤ 60 * (d9 + 1) + 400
            have := hM.2.2.2
            omega)) ⟨(xpre hP hD hS hA hK hEv).1, va_recv hK hP hr g6, (xpre hP hD hS hA hK hEv).2⟩ rfl (by have := xva_len g5; simp only [List.length_cons] at e2; omega) hl.1 (by show wa ++ wb = _; rw [g4]; simp) (by show 2 * 0 + xcat wb ≤ 8; rw [xva_cat g2]; omega) hdg ⟨hc1, hs1⟩⟩
          have hg := xgood hgd hM
          unfold wsV at hw
          rcases List.mem_append.mp hw with z | z
          · simp only [List.mem_cons, List.not_mem_nil, or_false] at z
            rcases z with rfl | rfl | rfl | rfl
            · exact ⟨hlk, good_of_word (hgd _ hlk)⟩
            · exact ⟨hin, good_of_word (hgd _ hin)⟩
            · exact ⟨hse, good_of_word (hgd _ hse)⟩
            · rw [← hC]; exact ⟨hM.2.1, good_of_word (hgd _ hM.2.1)⟩
          · exact hg w z
        · cases hci
      · cases hci
  · exact kk.1.elim
theorem so_cli (hx : p.tables.exec = Jvm.exec) (hb : c.code = cc) (hml : c.maxLocals = nL) (hts : ∀ w ∈ TB, w.before args s = true) (hgd : ∀ w ∈ TB, goodWord w = true) (hown : s.vm.findClass own = some m.cls) (hK : va_K D cl (xtys cA) s) (hA : ∀ q, s.heap.size ≤ q → A q) (hEv : xEv TF TM TS nS lenS bytS ad adV A s) (hlen : ∀ f : xF, rn f Q0 → f.2.2.2.1.length ≤ fin ∧ xsz E f.2.2.2.1 ≤ finS) (hR : R = xroom d mc ms)
    (hmono : ∀ (d : Nat) (M : xM) (f : xF) (v : Option Value) (h' : xH), rc d M f (fun v' h2 => v' = v ∧ h2 = h') → f.2.2.2.1.length ≤ h'.1.length ∧ xsz E f.2.2.2.1 ≤ xsz E h'.1) (hdet : ∀ (d : Nat) (M : xM) (f : xF) (P : xP), rc d M f P → ∃ v h', P v h' ∧ rc d M f (fun v' h2 => v' = v ∧ h2 = h')) (hfin : fin ≤ xt0)
    (hMet : ∀ (d : Nat) (y : Nat) (av : List Value) (h : xH) (v : Option Value) (h' : xH), rc d (E.1 y) (0, xent (E.1 y) av, [], h) (fun v' h2 => v' = v ∧ h2 = h') → xMet l TB TF TM TS nS lenS bytS E ad adV cA D cl d (E.1 y) av h v h') (hN : ∀ f, rn f Q0 → xG p l e R s m args below meth c Q E ad cA D cl A r0 nL mc ms fin finS f) {y n ci idx : Nat} (hM : xMok TB (E.1 y) n) (hret : (E.1 y).2.2.2.1 = none) (hini : (E.1 y).1.name = "<init>") (hlk : Cond.methodLink own idx (E.1 y).1 ∈ TB ∨ ∃ host, (own, idx, (E.1 y).1, host) ∈ TM) (hin : Cond.instanceMethod (E.1 y).1 ∈ TB) (hdg : decode cc pc = .ok (.invokespecial idx, 3))
    (kk : xwo E rc rn d Q0 (xclv E (pc + 3) ls st h y n ci)) : xG p l e R s m args below meth c Q E ad cA D cl A r0 nL mc ms fin finS (pc, ls, st, h) := by
  unfold xclv at kk
  split at kk
  · rename_i av rst hpop
    cases hb8 : (Nat.ble (xcat rst) 8 && Nat.ble (xflat av).length (E.1 y).2.2.1 && xis E ci av h) with
    | false => rw [hb8] at kk; exact kk.1.elim
    | true =>
      rw [hb8] at kk
      rw [Bool.and_eq_true, Bool.and_eq_true] at hb8
      have hc8 := Nat.le_of_ble_eq_true hb8.1.1
      have hfl := Nat.le_of_ble_eq_true hb8.1.2
      have hci := hb8.2
      refine so_callG hN hA hlen (by rw [hR]; rfl) (by rw [hR]; rfl) hmono hdet (fun d9 v h' hd9 hle hrun cells slots ws H locs lsC stC hc1 hs1 hrel => ?_) kk
      obtain ⟨⟨hW, hm⟩, hP, hD, hS, hl, hst9⟩ := hrel
      obtain ⟨as, e1, e2, e3⟩ := xpop_spec (r := xa ad ws) (n + 1) st [] av rst hpop
      rw [List.append_nil] at e1
      subst e1
      have hst9 : xva (xa ad ws) st stC := hst9
      rw [e3] at hst9
      obtain ⟨wa, wb, rfl, g1, g2⟩ := xva_split hst9
      have g1 := xva_rev g1
      rw [List.reverse_reverse] at g1
      have hM9 := hMet _ _ _ _ _ _ hrun hfl (Nat.le_trans hle hfin) ws wa.reverse H.size hW g1
      unfold xis at hci
      split at hci
      · rename_i b as2 
        split at hci
        · rename_i c2 rf hbc
          have := Nat.eq_of_beq_eq_true hci
          subst this
          obtain ⟨u, us, g3, ⟨q, hq, rfl⟩, g5⟩ := g1
          obtain ⟨e9, g6, fs, rfl, -⟩ := xW_at hW hbc hq
          rw [g3] at hM9
          have g4 : wa = us.reverse ++ [.ref q] := by
            have := congrArg List.reverse g3
            rw [List.reverse_reverse, List.reverse_cons] at this
            exact this
          subst hd9
          have hw9 : xws TB (E.1 y) = Cond.code (E.1 y).1 (E.1 y).2.1 (E.1 y).2.2.1 none :: TB := by rw [← hret]; rfl
          rcases hlk with hlk | ⟨host, hlk⟩
          · exact ⟨wb, (Value.ref q :: us).toArray, g2, va_runI (As := us) (rest := wb) ⟨hx, hb, hml, hown, hts⟩ hM9 (cwI n hts (xgood hgd hM) hw9 rfl rfl (hts _ hM.2.1) (hts _ hlk) (hts _ hin) hini hM.2.2.1 (by
            rw [hR]
            show d9 + 8 + 1 ≤ d9 + 1 + 8 ∧ 8 + (_ + 11) + (60 * d9 + 400) ≤ 60 * (d9 + 1) + 400
            have := hM.2.2.2
            omega)) (xpre hP hD hS hA hK hEv) rfl (by have := xva_len g5; simp only [List.length_cons] at e2; omega) hl.1 (by show wa ++ wb = _; rw [g4]; simp) (by show 2 * 0 + xcat wb ≤ 8; rw [xva_cat g2]; omega) hdg ⟨hc1, hs1⟩⟩
          · exact ⟨wb, (Value.ref q :: us).toArray, g2, va_runIN (As := us) (rest := wb) ⟨hx, hb, hml, hown, hts⟩ hM9 ⟨va_cnB n hts (xgood hgd hM) hw9 rfl rfl (hEv.2.1 _ hlk) (hts _ hM.2.1) hM.2.2.1 (by
            rw [hR]
            show d9 + 8 + 1 ≤ d9 + 1 + 8 ∧ 8 + (_ + 11) + (60 * d9 + 400) ≤ 60 * (d9 + 1) + 400
            have := hM.2.2.2
            omega), hini, hts _ hin⟩ (xpre hP hD hS hA hK hEv) rfl (by have := xva_len g5; simp only [List.length_cons] at e2; omega) hl.1 (by show wa ++ wb = _; rw [g4]; simp) (by show 2 * 0 + xcat wb ≤ 8; rw [xva_cat g2]; omega) hdg ⟨hc1, hs1⟩⟩
        · cases hci
      · cases hci
  · exact kk.1.elim
end XSC
end
section
/-! cells are never taken away -/
def xle (E : xE) (h h' : xH) : Prop := h.1.length ≤ h'.1.length ∧ xsz E h.1 ≤ xsz E h'.1
theorem xle.rf {E : xE} {h : xH} : xle E h h := ⟨Nat.le_refl _, Nat.le_refl _⟩
theorem xle.tr {E : xE} {h1 h2 h3 : xH} (a : xle E h1 h2) (b : xle E h2 h3) : xle E h1 h3 := ⟨Nat.le_trans a.1 b.1, Nat.le_trans a.2 b.2⟩
def xog (E : xE) (h : xH) (o : xO) : Prop := match o with
  | .inl g => xle E h g.2.2.2
  | .inr (.inl (_, g)) => xle E h g.2.2.2
  | .inr (.inr (.inl (cs, g))) => (∀ q ∈ cs, xle E h q.2.2.2.2) ∧ xle E h g.2.2.2
  | .inr (.inr (.inr (.inl (_, _, _, _, _, h2)))) => h2 = h
  | .inr (.inr (.inr (.inr (_, _, h2)))) => h2 = h
theorem xle_app {E : xE} {h : xH} {t : List xS} {d : xD} : xle E h (h.1 ++ t, d) := ⟨by simp, by rw [xsz_app]; omega⟩
theorem xle_set {E : xE} {h : xH} {a ci : Nat} {rf rf' : List (Option Nat)} {d : xD} (ha : h.1[a]? = some (.inr (ci, rf))) : xle E h (h.1.set a (.inr (ci, rf')), d) := ⟨by simp, by show xsz E h.1 ≤ xsz E (h.1.set a (.inr (ci, rf'))); rw [xsz_set (t' := .inr (ci, rf')) ha rfl]; exact Nat.le_refl _⟩
theorem xle_dat {E : xE} {h : xH} {d : xD} : xle E h (h.1, d) := xle.rf
theorem xog_no {E : xE} {f : xF} : xog E f.2.2.2 (xno f) := xle.rf
theorem xog_xii {E : xE} (g : Int32 → Int32 → Int32) (nx : Nat) (ls : xL) (st : List Value) (h : xH) : xog E h (xii g nx ls st h) := by
  unfold xii
  repeat' split
  all_goals exact xle.rf
theorem xog_xi {E : xE} (g : Int32 → Value) (nx : Nat) (ls : xL) (st : List Value) (h : xH) : xog E h (xi g nx ls st h) := by
  unfold xi
  repeat' split
  all_goals exact xle.rf
theorem xog_xiiD {E : xE} (g : Int32 → Int32 → Int32) (nx : Nat) (ls : xL) (st : List Value) (h : xH) : xog E h (xiiD g nx ls st h) := by
  unfold xiiD
  repeat' split
  all_goals exact xle.rf
theorem xog_xll {E : xE} (g : Int64 → Int64 → Value) (nx : Nat) (ls : xL) (st : List Value) (h : xH) : xog E h (xll g nx ls st h) := by
  unfold xll
  repeat' split
  all_goals exact xle.rf
theorem xog_xl {E : xE} (g : Int64 → Value) (nx : Nat) (ls : xL) (st : List Value) (h : xH) : xog E h (xl g nx ls st h) := by
  unfold xl
  repeat' split
  all_goals exact xle.rf
theorem xog_xli {E : xE} (g : Int64 → Int32 → Int64) (nx : Nat) (ls : xL) (st : List Value) (h : xH) : xog E h (xli g nx ls st h) := by
  unfold xli
  repeat' split
  all_goals exact xle.rf
theorem xog_xff {E : xE} (g : UInt32 → UInt32 → UInt32) (nx : Nat) (ls : xL) (st : List Value) (h : xH) : xog E h (xff g nx ls st h) := by
  unfold xff
  repeat' split
  all_goals exact xle.rf
theorem xog_xf {E : xE} (g : UInt32 → Value) (nx : Nat) (ls : xL) (st : List Value) (h : xH) : xog E h (xf g nx ls st h) := by
  unfold xf
  repeat' split
  all_goals exact xle.rf
theorem xog_xfc {E : xE} (g : CmpOp) (nx : Nat) (ls : xL) (st : List Value) (h : xH) : xog E h (xfc g nx ls st h) := by
  unfold xfc
  repeat' split
  all_goals exact xle.rf
theorem xog_xloi {E : xE} (i : Nat) (nx : Nat) (ls : xL) (st : List Value) (h : xH) : xog E h (xloi i nx ls st h) := by
  unfold xloi
  repeat' split
  all_goals exact xle.rf
theorem xog_xlol {E : xE} (i : Nat) (nx : Nat) (ls : xL) (st : List Value) (h : xH) : xog E h (xlol i nx ls st h) := by
  unfold xlol
  repeat' split
  all_goals exact xle.rf
theorem xog_xlof {E : xE} (i : Nat) (nx : Nat) (ls : xL) (st : List Value) (h : xH) : xog E h (xlof i nx ls st h) := by
  unfold xlof
  repeat' split
  all_goals exact xle.rf
theorem xog_xloa {E : xE} (i : Nat) (nx : Nat) (ls : xL) (st : List Value) (h : xH) : xog E h (xloa i nx ls st h) := by
  unfold xloa
  repeat' split
  all_goals exact xle.rf
theorem xog_xsti {E : xE} (i : Nat) (nx : Nat) (ls : xL) (st : List Value) (h : xH) : xog E h (xsti i nx ls st h) := by
  unfold xsti
  repeat' split
  all_goals exact xle.rf
theorem xog_xstf {E : xE} (i : Nat) (nx : Nat) (ls : xL) (st : List Value) (h : xH) : xog E h (xstf i nx ls st h) := by
  unfold xstf
  repeat' split
  all_goals exact xle.rf
theorem xog_xsta {E : xE} (i : Nat) (nx : Nat) (ls : xL) (st : List Value) (h : xH) : xog E h (xsta i nx ls st h) := by
  unfold xsta
  repeat' split
  all_goals exact xle.rf
theorem xog_xstl {E : xE} (i : Nat) (nx : Nat) (ls : xL) (st : List Value) (h : xH) : xog E h (xstl i nx ls st h) := by
  unfold xstl
  repeat' split
  all_goals exact xle.rf
theorem xog_xinc {E : xE} (i : Nat) (v : Value) (nx : Nat) (ls : xL) (st : List Value) (h : xH) : xog E h (xinc i v nx ls st h) := by
  unfold xinc
  repeat' split
  all_goals exact xle.rf
theorem xog_xnul {E : xE} (a b : Nat) (ls : xL) (st : List Value) (h : xH) : xog E h (xnul a b ls st h) := by
  unfold xnul
  repeat' split
  all_goals exact xle.rf
theorem xog_xaldI {E : xE}  (nx : Nat) (ls : xL) (st : List Value) (h : xH) : xog E h (xaldI nx ls st h) := by
  unfold xaldI
  repeat' split
  all_goals exact xle.rf
theorem xog_xaldB {E : xE}  (nx : Nat) (ls : xL) (st : List Value) (h : xH) : xog E h (xaldB nx ls st h) := by
  unfold xaldB
  repeat' split
  all_goals exact xle.rf
theorem xog_xaldL {E : xE}  (nx : Nat) (ls : xL) (st : List Value) (h : xH) : xog E h (xaldL nx ls st h) := by
  unfold xaldL
  repeat' split
  all_goals exact xle.rf
theorem xog_xaldF {E : xE}  (nx : Nat) (ls : xL) (st : List Value) (h : xH) : xog E h (xaldF nx ls st h) := by
  unfold xaldF
  repeat' split
  all_goals exact xle.rf
theorem xog_xaldA {E : xE}  (nx : Nat) (ls : xL) (st : List Value) (h : xH) : xog E h (xaldA nx ls st h) := by
  unfold xaldA
  repeat' split
  all_goals exact xle.rf
theorem xog_xastI {E : xE}  (nx : Nat) (ls : xL) (st : List Value) (h : xH) : xog E h (xastI nx ls st h) := by
  unfold xastI
  repeat' split
  all_goals exact xle.rf
theorem xog_xastB {E : xE}  (nx : Nat) (ls : xL) (st : List Value) (h : xH) : xog E h (xastB nx ls st h) := by
  unfold xastB
  repeat' split
  all_goals exact xle.rf
theorem xog_xastL {E : xE}  (nx : Nat) (ls : xL) (st : List Value) (h : xH) : xog E h (xastL nx ls st h) := by
  unfold xastL
  repeat' split
  all_goals exact xle.rf
theorem xog_xastF {E : xE}  (nx : Nat) (ls : xL) (st : List Value) (h : xH) : xog E h (xastF nx ls st h) := by
  unfold xastF
  repeat' split
  all_goals exact xle.rf
theorem xog_xaln {E : xE}  (nx : Nat) (ls : xL) (st : List Value) (h : xH) : xog E h (xaln nx ls st h) := by
  unfold xaln
  repeat' split
  all_goals exact xle.rf
theorem xog_xb1 {E : xE} (g : Int32 → Prop) (nx : Nat) (tg : List Nat) (ls : xL) (st : List Value) (h : xH) : xog E h (xb1 g nx tg ls st h) := by
  unfold xb1
  split
  · unfold xb1t
    split
    · exact ⟨fun q hq => by rw [List.mem_singleton.mp hq]; exact xle.rf, xle.rf⟩
    · exact xle.rf
  · exact xle.rf
theorem xog_xb2 {E : xE} (g : Int32 → Int32 → Prop) (nx : Nat) (tg : List Nat) (ls : xL) (st : List Value) (h : xH) : xog E h (xb2 g nx tg ls st h) := by
  unfold xb2
  split
  · unfold xb2t
    split
    · exact ⟨fun q hq => by rw [List.mem_singleton.mp hq]; exact xle.rf, xle.rf⟩
    · exact xle.rf
  · exact xle.rf
theorem xsw_mem {ls : xL} {r : List Value} {h : xH} {x : Int32} : ∀ (ts : List Nat) (k : Int) (q : Prop × xF), q ∈ xsw ls r h x k ts → q.2.2.2.2 = h
  | [], _, _, hq => by cases hq
  | t :: ts, k, q, hq => by
    unfold xsw at hq
    rcases List.mem_cons.mp hq with rfl | hq
    · rfl
    · exact xsw_mem ts _ q hq
theorem xog_xgf {E : xE} (nx : Nat) (tg : List Nat) (ls : xL) (st : List Value) (h : xH) : xog E h (xgf E nx tg ls st h) := by
  unfold xgf
  split
  · rename_i ci k
    unfold xgft
    split
    · split
      · rename_i c2 rf ty ha hty
        cases hb : Nat.beq c2 ci <;> exact xle.rf
      · exact xle.rf
    · exact xle.rf
  · exact xle.rf
theorem xog_xpf {E : xE} (nx : Nat) (tg : List Nat) (ls : xL) (st : List Value) (h : xH) : xog E h (xpf E nx tg ls st h) := by
  unfold xpf
  split
  · rename_i ci k
    unfold xpft
    split
    · rename_i v a r
      split
      · rename_i c2 rf ty ha hty
        cases hb : Nat.beq c2 ci with
        | false => exact xle.rf
        | true =>
          have := Nat.eq_of_beq_eq_true hb
          subst this
          show xog E h (xwr nx ls _ _ h a c2 k rf ty v)
          unfold xwr
          split <;> first | exact xle.rf | exact xle_set ha
      · exact xle.rf
    · exact xle.rf
  · exact xle.rf
theorem xog_xnew {E : xE} (nx : Nat) (tg : List Nat) (ls : xL) (st : List Value) (h : xH) : xog E h (xnew E nx tg ls st h) := by
  unfold xnew
  split
  · exact xle_app
  · exact xle.rf
theorem xog_xnar {E : xE} (ty : FieldType) (nx : Nat) (ls : xL) (st : List Value) (h : xH) : xog E h (xnar ty nx ls st h) := by
  unfold xnar
  split
  · cases xoka ty
    · exact xle.rf
    · exact xle_app
  · exact xle.rf
theorem xog_xmul {E : xE} (nx : Nat) (ls : xL) (st : List Value) (h : xH) : xog E h (xmul nx ls st h) := by
  unfold xmul
  split
  · exact xle_app
  · exact xle.rf
theorem xog_xcl {E : xE} (nx : Nat) (ls : xL) (st : List Value) (h : xH) (y n : Nat) : xog E h (xcl E nx ls st h y n) := by
  unfold xcl
  split
  · rename_i av r _
    cases (Nat.ble (xcat r) 8 && Nat.ble (xflat av).length (E.1 y).2.2.1)
    · exact xle.rf
    · rfl
  · exact xle.rf
theorem xog_xclv {E : xE} (nx : Nat) (ls : xL) (st : List Value) (h : xH) (y n ci : Nat) : xog E h (xclv E nx ls st h y n ci) := by
  unfold xclv
  split
  · rename_i av r _
    cases (Nat.ble (xcat r) 8 && Nat.ble (xflat av).length (E.1 y).2.2.1 && xis E ci av h)
    · exact xle.rf
    · rfl
  · exact xle.rf
theorem xog_xmax {E : xE} (nx : Nat) (ls : xL) (st : List Value) (h : xH) : xog E h (xmax nx ls st h) := by
  unfold xmax
  split
  · cases Nat.ble _ _ <;> exact xle.rf
  · exact xle.rf
theorem xog_xmin {E : xE} (nx : Nat) (ls : xL) (st : List Value) (h : xH) : xog E h (xmin nx ls st h) := by
  unfold xmin
  split
  · cases Nat.ble _ _ <;> exact xle.rf
  · exact xle.rf
theorem xog_xobj {E : xE} (nx : Nat) (ls : xL) (st : List Value) (h : xH) : xog E h (xobj nx ls st h) := by
  unfold xobj
  split
  · cases Nat.ble _ _ <;> exact xle.rf
  · exact xle.rf
theorem xog_xtl {E : xE} (nx : Nat) (ls : xL) (st : List Value) (h : xH) : xog E h (xtl E nx ls st h) := by
  unfold xtl
  split
  · rename_i a r
    cases (Nat.ble xt0 a && Nat.ble (xcat r) 8 && Nat.ble 1 (E.2.2.1 (a - xt0))) <;> exact xle.rf
  · exact xle.rf
theorem xog_xtc {E : xE} (nx : Nat) (ls : xL) (st : List Value) (h : xH) : xog E h (xtc E nx ls st h) := by
  unfold xtc
  split
  · rename_i i a r
    cases (Nat.ble xt0 a && Nat.ble (xcat r) 8) <;> exact xle.rf
  · exact xle.rf
theorem xog_xivs {E : xE} (nx : Nat) (tg : List Nat) (ls : xL) (st : List Value) (h : xH) : xog E h (xivs E nx tg ls st h) := by
  unfold xivs
  split
  · apply xog_xcl
  · apply xog_xmax
  · apply xog_xmin
  · exact xle.rf
theorem xog_xivv {E : xE} (nx : Nat) (tg : List Nat) (ls : xL) (st : List Value) (h : xH) : xog E h (xivv E nx tg ls st h) := by
  unfold xivv
  split
  · apply xog_xclv
  · apply xog_xtl
  · apply xog_xtc
  · exact xle.rf
theorem xog_xivi {E : xE} (nx : Nat) (tg : List Nat) (ls : xL) (st : List Value) (h : xH) : xog E h (xivi E nx tg ls st h) := by
  unfold xivi
  split
  · apply xog_xclv
  · apply xog_xobj
  · exact xle.rf
theorem xog_xswt {E : xE} (lo : Int) (nx t : Nat) (ts : List Nat) (ls : xL) (st : List Value) (h : xH) : xog E h (xswt lo nx t ts ls st h) := by
  unfold xswt
  split
  · exact ⟨fun q hq => by rw [xsw_mem _ _ q hq]; exact xle.rf, xle.rf⟩
  · exact xle.rf
theorem xog_xrei {E : xE} (M : xM) (st : List Value) (h : xH) : xog E h (xrei M st h) := by
  unfold xrei
  split <;> first | rfl | exact xle.rf
theorem xog_xrel {E : xE} (M : xM) (st : List Value) (h : xH) : xog E h (xrel M st h) := by
  unfold xrel
  split <;> first | rfl | exact xle.rf
theorem xog_xref {E : xE} (M : xM) (st : List Value) (h : xH) : xog E h (xref M st h) := by
  unfold xref
  split <;> first | rfl | exact xle.rf
theorem xog_xrea {E : xE} (M : xM) (st : List Value) (h : xH) : xog E h (xrea M st h) := by
  unfold xrea
  split <;> first | rfl | exact xle.rf
theorem xog_xrev {E : xE} (M : xM) (st : List Value) (h : xH) : xog E h (xrev M st h) := by
  unfold xrev
  split <;> first | rfl | exact xle.rf
theorem xog_xdup {E : xE} (nx : Nat) (ls : xL) (st : List Value) (h : xH) : xog E h (xdup nx ls st h) := by
  unfold xdup
  split
  all_goals first | exact xle.rf | (cases (Nat.beq _ _) <;> exact xle.rf) | (cases (Nat.beq _ _ && Nat.beq _ _) <;> exact xle.rf) | (cases (Nat.beq _ _ && Nat.beq _ _ && Nat.beq _ _) <;> exact xle.rf) | (cases (Nat.beq _ _ && Nat.beq _ _) <;> first | exact xle.rf | (cases (Nat.beq _ 2) <;> exact xle.rf))
theorem xog_xpo {E : xE} (nx : Nat) (ls : xL) (st : List Value) (h : xH) : xog E h (xpo nx ls st h) := by
  unfold xpo
  split
  all_goals first | exact xle.rf | (cases (Nat.beq _ _) <;> exact xle.rf) | (cases (Nat.beq _ _ && Nat.beq _ _) <;> exact xle.rf) | (cases (Nat.beq _ _ && Nat.beq _ _ && Nat.beq _ _) <;> exact xle.rf) | (cases (Nat.beq _ _ && Nat.beq _ _) <;> first | exact xle.rf | (cases (Nat.beq _ 2) <;> exact xle.rf))
theorem xog_xdx1 {E : xE} (nx : Nat) (ls : xL) (st : List Value) (h : xH) : xog E h (xdx1 nx ls st h) := by
  unfold xdx1
  split
  all_goals first | exact xle.rf | (cases (Nat.beq _ _) <;> exact xle.rf) | (cases (Nat.beq _ _ && Nat.beq _ _) <;> exact xle.rf) | (cases (Nat.beq _ _ && Nat.beq _ _ && Nat.beq _ _) <;> exact xle.rf) | (cases (Nat.beq _ _ && Nat.beq _ _) <;> first | exact xle.rf | (cases (Nat.beq _ 2) <;> exact xle.rf))
theorem xog_xdx2 {E : xE} (nx : Nat) (ls : xL) (st : List Value) (h : xH) : xog E h (xdx2 nx ls st h) := by
  unfold xdx2
  split
  all_goals first | exact xle.rf | (cases (Nat.beq _ _) <;> exact xle.rf) | (cases (Nat.beq _ _ && Nat.beq _ _) <;> exact xle.rf) | (cases (Nat.beq _ _ && Nat.beq _ _ && Nat.beq _ _) <;> exact xle.rf) | (cases (Nat.beq _ _ && Nat.beq _ _) <;> first | exact xle.rf | (cases (Nat.beq _ 2) <;> exact xle.rf))
theorem xog_xd2 {E : xE} (nx : Nat) (ls : xL) (st : List Value) (h : xH) : xog E h (xd2 nx ls st h) := by
  unfold xd2
  split
  all_goals first | exact xle.rf | (cases (Nat.beq _ _) <;> exact xle.rf) | (cases (Nat.beq _ _ && Nat.beq _ _) <;> exact xle.rf) | (cases (Nat.beq _ _ && Nat.beq _ _ && Nat.beq _ _) <;> exact xle.rf) | (cases (Nat.beq _ _ && Nat.beq _ _) <;> first | exact xle.rf | (cases (Nat.beq _ 2) <;> exact xle.rf))
theorem xog_xd2x1 {E : xE} (nx : Nat) (ls : xL) (st : List Value) (h : xH) : xog E h (xd2x1 nx ls st h) := by
  unfold xd2x1
  split
  all_goals first | exact xle.rf | (cases (Nat.beq _ _) <;> exact xle.rf) | (cases (Nat.beq _ _ && Nat.beq _ _) <;> exact xle.rf) | (cases (Nat.beq _ _ && Nat.beq _ _ && Nat.beq _ _) <;> exact xle.rf) | (cases (Nat.beq _ _ && Nat.beq _ _) <;> first | exact xle.rf | (cases (Nat.beq _ 2) <;> exact xle.rf))
theorem xog_xins {E : xE} {M : xM} (i : Instr) (nx : Nat) (tg : List Nat) (v : Value) (ls : xL) (st : List Value) (h : xH) : xog E h (xins E M i nx tg v ls st h) := by
  unfold xins
  split
  all_goals first | exact xle.rf | apply xog_xii | apply xog_xi | apply xog_xiiD | apply xog_xll | apply xog_xl | apply xog_xli | apply xog_xff | apply xog_xf | apply xog_xfc | apply xog_xloi | apply xog_xlol | apply xog_xlof | apply xog_xloa | apply xog_xsti | apply xog_xstf | apply xog_xsta | apply xog_xstl | apply xog_xinc | apply xog_xnul | apply xog_xaldI | apply xog_xaldB | apply xog_xaldL | apply xog_xaldF | apply xog_xaldA | apply xog_xastI | apply xog_xastB | apply xog_xastL | apply xog_xastF | apply xog_xaln | apply xog_xb1 | apply xog_xb2 | apply xog_xgf | apply xog_xpf | apply xog_xnew | apply xog_xnar | apply xog_xmul | apply xog_xivs | apply xog_xivv | apply xog_xivi | apply xog_xrei | apply xog_xrel | apply xog_xref | apply xog_xrea | apply xog_xrev | apply xog_xdup | apply xog_xpo | apply xog_xdx1 | apply xog_xdx2 | apply xog_xd2x1 | apply xog_xd2 | (split <;> first | exact xle.rf | apply xog_xnul | apply xog_xswt)
theorem xog_xstep {E : xE} {M : xM} (f : xF) : xog E f.2.2.2 (xstep E M f) := by
  unfold xstep
  split
  · exact xle.rf
  · exact xog_xins _ _ _ _ _ _ _
theorem xdl_le {E : xE} {h : xH} {rn : xF → Prop} {P : Prop} (H : ∀ f, rn f → xle E h f.2.2.2 → P) : ∀ (cs : List (Prop × xF)) (g : xF), (∀ q ∈ cs, xle E h q.2.2.2.2) → xle E h g.2.2.2 → xdl rn cs g → P
  | [], g, _, hg, k => H g k hg
  | (c, g1) :: t, g, hc, hg, k => by
    by_cases z : c
    · exact H g1 (k.1 z) (hc _ List.mem_cons_self)
    · exact xdl_le H t g (fun q hq => hc q (List.mem_cons_of_mem _ hq)) hg (k.2 z)
/-- at its end a method has at least the cells that were there -/
theorem xr_len {E : xE} : ∀ (n d : Nat) (M : xM) (f : xF) (v : Option Value) (h' : xH), xr E n d M f (fun v2 h2 => v2 = v ∧ h2 = h') → xle E f.2.2.2 h'
  | 0, _, _, _, _, _, k => k.elim
  | n + 1, d, M, f, v, h', k => by
    have k1 : xwo E (xr E n) (xr E n d M) d (fun v2 h2 => v2 = v ∧ h2 = h') (xstep E M f) := k
    have g := xog_xstep (E := E) (M := M) f
    generalize xstep E M f = o at k1 g
    unfold xwo at k1
    split at k1
    · exact xle.tr g (xr_len n _ _ _ _ _ k1)
    · exact xle.tr g (xr_len n _ _ _ _ _ k1.2)
    · exact xdl_le (fun f9 k9 g9 => xle.tr g9 (xr_len n _ _ _ _ _ k9)) _ _ g.1 g.2 k1
    · split at k1
      · exact k1.elim
      · rename_i y av pc ls st h2 _ d2
        have g : h2 = f.2.2.2 := g
        obtain ⟨v9, h9, hq, hrun⟩ := xr_det n _ _ _ _ k1
        have a1 := xr_len n _ _ _ _ _ hrun
        have a2 := xr_len n _ _ _ _ _ hq
        rw [← g]
        exact xle.tr a1 a2
    · obtain ⟨_, -, e⟩ := k1
      have g : _ = f.2.2.2 := g
      rw [← g, e]
      exact xle.rf
end
section
/-! the rest: ends, Math, Object(), switches, texts, arrays of two dimensions -/
/-- targets of a switch -/
def xtgt (pc : Nat) : List Int → List Nat → Prop
  | [], [] => True
  | o :: os, t :: ts => (pc : Int) + o = (t : Int) ∧ xtgt pc os ts
  | _, _ => False
section XSR
variable {p : Program} {l : Launch} {e : Env} {s : State} {m : MethodId} {args : Array Value} {below : List Frame} {meth : Method} {c : Code} {Q : State → Prop}
variable {E : xE} {ad adV : Nat → Nat} {cA : FieldType → ClassId} {D : va_G} {cl : List vw_C} {A : Nat → Prop} {r0 : Nat → Option Nat} {nL mc ms fin finS : Nat}
variable {rc : Nat → xM → xF → xP → Prop} {rn : xF → xP → Prop} {d : Nat} {Q0 : xP} {pc : Nat} {ls : xL} {st : List Value} {h : xH} {cc : ByteArray} {TB : List Cond} {TF : List xNF} {TM : List xNM} {TS : List xTS} {nS : Nat} {lenS : List Nat} {bytS : List (List Int32)} {own : String}
theorem so_ldcwS {R : Room} {T : State} {locs : List Loc} {cells slots : Nat} (X : Stand p l e R s m args below meth c T locs cells slots) (hexec : p.tables.exec = Jvm.exec) {index : Nat} {v : UInt32} (hown : s.vm.findClass own = some m.cls)
    (hconst : (Cond.constantFloat own index v).before args s = true) {g : JFrame} (hg : g.method = m) (hdg : decode c.code g.pc = .ok (.ldc_w index, 3)) :
    ∀ target, Steps p.tables e below (T.setTop { g with pc := g.pc + 3, stack := .float v :: g.stack }) target → Steps p.tables e below (T.setTop g) target := by
  obtain ⟨k, cf, hk, hcf, hcp⟩ := Cond.constantFloat_spec hown hconst
  obtain ⟨k', hk', he⟩ := X.warmed.alike.2.2 _ _ hk
  intro target hrest
  subst hg
  jvm_step X.here [hexec, hdg, ldc_w.wp_float (s := T) (f := g) X.here.top hk' (by rw [he]; exact hcf) hcp]
  exact hrest
theorem so_ldcwF {R : Room} {H : Heap} {locs : List Loc} {cells slots : Nat} {lsC : Array Slot} {rest : List Value} (hexec : p.tables.exec = Jvm.exec) (hb : c.code = cc) {index : Nat} {v : UInt32} (hown : s.vm.findClass own = some m.cls) (hconst : (Cond.constantFloat own index v).before args s = true) (hdg : decode cc pc = .ok (.ldc_w index, 3)) (k : W p l e R s m args below meth c H locs cells slots Q (F0 m (pc + 3) lsC (.float v :: rest))) : W p l e R s m args below meth c H locs cells slots Q (F0 m pc lsC rest) := by
  intro T hT X
  obtain ⟨t, a, b⟩ := k T hT X
  exact ⟨t, so_ldcwS X hexec hown hconst (g := F0 m pc lsC rest) rfl (by rw [hb]; exact hdg) t a, b⟩
theorem so_obj (hx : p.tables.exec = Jvm.exec) (hb : c.code = cc) (hml : c.maxLocals = nL) (hown : s.vm.findClass own = some m.cls) {idx : Nat} (h1 : (Cond.methodLink own idx Lib.objectInit).before args s = true) (h2 : (Cond.instanceMethod Lib.objectInit).before args s = true) (h3 : (Cond.code Lib.objectInit ⟨#[0xb1]⟩ 1 none).before args s = true) (hN : ∀ f, rn f Q0 → xG p l e (xroom d mc ms) s m args below meth c Q E ad cA D cl A r0 nL mc ms fin finS f) (hdg : decode cc pc = .ok (.invokespecial idx, 3))
    (k : xwo E rc rn d Q0 (xivi E (pc + 3) [] ls st h)) : xG p l e (xroom d mc ms) s m args below meth c Q E ad cA D cl A r0 nL mc ms fin finS (pc, ls, st, h) := by
  replace k : xwo E rc rn d Q0 (xobj (pc + 3) ls st h) := k
  unfold xobj at k
  split at k
  · rename_i a r
    cases hb8 : Nat.ble (xcat r) 8 with
    | false => rw [hb8] at k; exact k.1.elim
    | true =>
      rw [hb8] at k
      have hc8 := Nat.le_of_ble_eq_true hb8
      intro cells slots ws H locs lsC stC e1 e2 hrel
      obtain ⟨hW, hP, hD, hS, hl, hst⟩ := hrel
      obtain ⟨_, rst, rfl, ⟨q, hq, rfl⟩, hst⟩ := hst
      have hcr := xva_cat hst
      exact W.objInit hx hb hown h1 h2 h3 rfl (by rw [hml]; exact hl.1) rfl hdg (show 1 ≤ d + 8 by omega) (show 2 * 0 + xcat rst + 12 ≤ 60 * d + 400 by omega) (hN _ k cells slots ws H locs lsC _ e1 e2 ⟨hW, hP, hD, hS, hl, hst⟩)
  · exact k.1.elim
theorem so_max (hx : p.tables.exec = Jvm.exec) (hb : c.code = cc) (hml : c.maxLocals = nL) (hown : s.vm.findClass own = some m.cls) {idx : Nat} (h1 : (Cond.methodLink own idx Lib.Math.max.name).before args s = true) (h2 : (Cond.static Lib.Math.max.name).before args s = true) (h3 : (Cond.initialized "java/lang/Math").before args s = true) (h4 : (Cond.code Lib.Math.max.name Lib.Math.max.code 2 (some .int)).before args s = true) (hlen : ∀ f : xF, rn f Q0 → f.2.2.2.1.length ≤ fin ∧ xsz E f.2.2.2.1 ≤ finS) (hN : ∀ f, rn f Q0 → xG p l e (xroom d mc ms) s m args below meth c Q E ad cA D cl A r0 nL mc ms fin finS f) (hdg : decode cc pc = .ok (.invokestatic idx, 3))
    (k : xwo E rc rn d Q0 (xivs E (pc + 3) [2] ls st h)) : xG p l e (xroom d mc ms) s m args below meth c Q E ad cA D cl A r0 nL mc ms fin finS (pc, ls, st, h) := by
  replace k : xwo E rc rn d Q0 (xmax (pc + 3) ls st h) := k
  unfold xmax at k
  split at k
  · rename_i y x r
    cases hb8 : Nat.ble (xcat r) 8 with
    | false => rw [hb8] at k; exact k.1.elim
    | true =>
      rw [hb8] at k
      have hc8 := Nat.le_of_ble_eq_true hb8
      have hlk := hlen _ k
      have hl1 : h.1.length ≤ fin := hlk.1
      have hl2 : xsz E h.1 ≤ finS := hlk.2
      intro cells slots ws H locs lsC stC e1 e2 hrel
      have e1 : cells + fin ≤ mc + h.1.length := e1
      have e2 : slots + finS ≤ ms + xsz E h.1 := e2
      obtain ⟨hW, hP, hD, hS, hl, hst⟩ := hrel
      obtain ⟨_, _, rfl, rfl, _, rst, rfl, rfl, hst⟩ := hst
      have hcr := xva_cat hst
      exact va_mmax (R := xroom d mc ms) (rest := rst) hx hb (by rw [hml]; exact hl.1.symm) hown h1 h2 h3 h4 (show 1 ≤ d + 8 by omega) (show xcat rst + 13 ≤ 60 * d + 400 by omega) (show cells ≤ mc by omega) (show slots ≤ ms by omega) hdg (hN _ k cells slots ws H locs lsC _ e1 e2 ⟨hW, hP, hD, hS, hl, ⟨_, _, rfl, rfl, hst⟩⟩)
  · exact k.1.elim
theorem so_min (hx : p.tables.exec = Jvm.exec) (hb : c.code = cc) (hml : c.maxLocals = nL) (hown : s.vm.findClass own = some m.cls) {idx : Nat} (h1 : (Cond.methodLink own idx Lib.Math.min.name).before args s = true) (h2 : (Cond.static Lib.Math.min.name).before args s = true) (h3 : (Cond.initialized "java/lang/Math").before args s = true) (h4 : (Cond.code Lib.Math.min.name Lib.Math.min.code 2 (some .int)).before args s = true) (hlen : ∀ f : xF, rn f Q0 → f.2.2.2.1.length ≤ fin ∧ xsz E f.2.2.2.1 ≤ finS) (hN : ∀ f, rn f Q0 → xG p l e (xroom d mc ms) s m args below meth c Q E ad cA D cl A r0 nL mc ms fin finS f) (hdg : decode cc pc = .ok (.invokestatic idx, 3))
    (k : xwo E rc rn d Q0 (xivs E (pc + 3) [3] ls st h)) : xG p l e (xroom d mc ms) s m args below meth c Q E ad cA D cl A r0 nL mc ms fin finS (pc, ls, st, h) := by
  replace k : xwo E rc rn d Q0 (xmin (pc + 3) ls st h) := k
  unfold xmin at k
  split at k
  · rename_i y x r
    cases hb8 : Nat.ble (xcat r) 8 with
    | false => rw [hb8] at k; exact k.1.elim
    | true =>
      rw [hb8] at k
      have hc8 := Nat.le_of_ble_eq_true hb8
      have hlk := hlen _ k
      have hl1 : h.1.length ≤ fin := hlk.1
      have hl2 : xsz E h.1 ≤ finS := hlk.2
      intro cells slots ws H locs lsC stC e1 e2 hrel
      have e1 : cells + fin ≤ mc + h.1.length := e1
      have e2 : slots + finS ≤ ms + xsz E h.1 := e2
      obtain ⟨hW, hP, hD, hS, hl, hst⟩ := hrel
      obtain ⟨_, _, rfl, rfl, _, rst, rfl, rfl, hst⟩ := hst
      have hcr := xva_cat hst
      exact va_mmin (R := xroom d mc ms) (rest := rst) hx hb (by rw [hml]; exact hl.1.symm) hown h1 h2 h3 h4 (show 1 ≤ d + 8 by omega) (show xcat rst + 13 ≤ 60 * d + 400 by omega) (show cells ≤ mc by omega) (show slots ≤ ms by omega) hdg (hN _ k cells slots ws H locs lsC _ e1 e2 ⟨hW, hP, hD, hS, hl, ⟨_, _, rfl, rfl, hst⟩⟩)
  · exact k.1.elim
theorem xsw_in {rn : xF → Prop} {ls : xL} {r : List Value} {h : xH} {x : Int32} {g : xF} : ∀ (ts : List Nat) (lo : Int) (j t : Nat), ts[j]? = some t → x.toInt = lo + (j : Int) → xdl rn (xsw ls r h x lo ts) g → rn (t, ls, r, h)
  | [], _, _, _, hj, _, _ => by simp at hj
  | u :: ts, lo, 0, t, hj, hx, k => by
    have e : u = t := by simpa using hj
    subst e
    exact k.1 (by simpa using hx)
  | u :: ts, lo, j + 1, t, hj, hx, k => by
    have hj : ts[j]? = some t := by simpa using hj
    have hx : x.toInt = lo + 1 + (j : Int) := by omega
    exact xsw_in ts (lo + 1) j t hj hx (k.2 (by omega))
theorem xsw_out {rn : xF → Prop} {ls : xL} {r : List Value} {h : xH} {x : Int32} {g : xF} : ∀ (ts : List Nat) (lo : Int), (x.toInt < lo ∨ lo + (ts.length : Int) ≤ x.toInt) → xdl rn (xsw ls r h x lo ts) g → rn g
  | [], _, _, k => k
  | u :: ts, lo, hx, k => by
    have hlen : ((u :: ts).length : Int) = (ts.length : Int) + 1 := by simp
    rw [hlen] at hx
    exact xsw_out ts (lo + 1) (by omega) (k.2 (by omega))
theorem xtgt_at {pc : Nat} : ∀ (os : List Int) (ts : List Nat), xtgt pc os ts → os.length = ts.length ∧ ∀ (j : Nat) (o : Int), os[j]? = some o → ∃ t, ts[j]? = some t ∧ (pc : Int) + o = (t : Int)
  | [], [], _ => ⟨rfl, fun j o h => by simp at h⟩
  | [], _ :: _, k => k.elim
  | _ :: _, [], k => k.elim
  | o :: os, t :: ts, k => by
    obtain ⟨h1, h2⟩ := xtgt_at os ts k.2
    refine ⟨by simp [h1], fun j o2 hj => ?_⟩
    cases j with
    | zero =>
      have e : o = o2 := by simpa using hj
      subst e
      exact ⟨t, rfl, k.1⟩
    | succ j => exact h2 j o2 (by simpa using hj)
theorem so_sw (hx : p.tables.exec = Jvm.exec) (hb : c.code = cc) (hN : ∀ f, rn f Q0 → xG p l e (xroom d mc ms) s m args below meth c Q E ad cA D cl A r0 nL mc ms fin finS f) {df lo hi : Int} {offs : Array Int} {len nx : Nat} {tg : List Nat} {M : xM} {v : Value} (hdg : decode cc pc = .ok (.tableswitch df lo hi offs, len)) (hof : (offs.toList.length : Int) = hi - lo + 1) (htg : xtgt pc (df :: offs.toList) tg)
    (k : xwo E rc rn d Q0 (xins E M (.tableswitch df lo hi offs) nx tg v ls st h)) : xG p l e (xroom d mc ms) s m args below meth c Q E ad cA D cl A r0 nL mc ms fin finS (pc, ls, st, h) := by
  cases tg with
  | nil => exact htg.elim
  | cons t ts =>
    obtain ⟨ht, hts⟩ := htg
    obtain ⟨hl1, hl2⟩ := xtgt_at _ _ hts
    replace k : xwo E rc rn d Q0 (xswt lo nx t ts ls st h) := k
    unfold xswt at k
    split at k
    · rename_i x r
      have k : xdl (fun g => rn g Q0) (xsw ls r h x lo ts) (t, ls, r, h) := k
      intro cells slots ws H locs lsC stC e1 e2 hrel
      obtain ⟨hW, hP, hD, hS, hl, hst⟩ := hrel
      obtain ⟨_, _, rfl, rfl, hst⟩ := hst
      by_cases ho : x.toInt < lo ∨ hi < x.toInt
      · exact lv_tableOut hx hb hdg ho ht (hN _ (xsw_out ts lo (by omega) k) cells slots ws H locs lsC _ e1 e2 ⟨hW, hP, hD, hS, hl, hst⟩)
      · have hj : (x.toInt - lo).toNat < offs.toList.length := by omega
        obtain ⟨u, hu, hpu⟩ := hl2 _ _ (List.getElem?_eq_getElem hj)
        exact lv_tableIn hx hb hdg (by omega) (by omega) (by rw [← Array.getElem?_toList]; exact List.getElem?_eq_getElem hj) hpu (hN _ (xsw_in ts lo _ u hu (by omega) k) cells slots ws H locs lsC _ e1 e2 ⟨hW, hP, hD, hS, hl, hst⟩)
    · exact k.1.elim
theorem xD3 {ws : va_W} {H : Heap} {e1 e2 e3 : va_E} (hD : va_D A ws) (hlt : ∀ (k : Nat) (q : Nat × va_E), ws[k]? = some q → q.1 < H.size) (hA : ∀ q : Nat, H.size ≤ q → A q) : va_D A (ws ++ [(H.size, e1), (H.size + 1, e2), (H.size + 2, e3)]) := by
  refine va_D.app hD ⟨fun i j p q hi hj hpq => ?_, fun k q hk => ?_⟩ (fun i j p q hi hj hpq => ?_)
  · match i, j, hi, hj with
    | 0, 0, _, _ => rfl
    | 1, 1, _, _ => rfl
    | 2, 2, _, _ => rfl
    | 0, 1, hi, hj => cases hi; cases hj; exact absurd hpq (by show ¬ H.size = H.size + 1; omega)
    | 0, 2, hi, hj => cases hi; cases hj; exact absurd hpq (by show ¬ H.size = H.size + 2; omega)
    | 1, 0, hi, hj => cases hi; cases hj; exact absurd hpq (by show ¬ H.size + 1 = H.size; omega)
    | 1, 2, hi, hj => cases hi; cases hj; exact absurd hpq (by show ¬ H.size + 1 = H.size + 2; omega)
    | 2, 0, hi, hj => cases hi; cases hj; exact absurd hpq (by show ¬ H.size + 2 = H.size; omega)
    | 2, 1, hi, hj => cases hi; cases hj; exact absurd hpq (by show ¬ H.size + 2 = H.size + 1; omega)
    | i + 3, _, hi, _ => simp at hi
    | 0, j + 3, _, hj => simp at hj
    | 1, j + 3, _, hj => simp at hj
    | 2, j + 3, _, hj => simp at hj
  · match k, hk with
    | 0, hk => cases hk; exact hA _ (Nat.le_refl _)
    | 1, hk => cases hk; exact hA _ (Nat.le_add_right _ _)
    | 2, hk => cases hk; exact hA _ (Nat.le_add_right _ _)
    | k + 3, hk => simp at hk
  · have h1 := hlt i p hi
    have h2 : H.size ≤ q.1 := by
      match j, hj with
      | 0, hj => cases hj; exact Nat.le_refl _
      | 1, hj => cases hj; exact Nat.le_add_right _ _
      | 2, hj => cases hj; exact Nat.le_add_right _ _
      | j + 3, hj => simp at hj
    omega
theorem xout (c : ClassId) (h0 : Nat) : Jvm.Free.Multi.outerC c 2 h0 2 = vp_cell c (2, .inr (.inr (.inr (.inr (fun j => if j < 2 then some (h0 + 1 + j) else none))))) := by
  rw [vp_cell_q]
  show (((({ cls := c, slots := Array.replicate 2 .null, vm := .none } : Cell).setSlot 0 (.ref (h0 + 1 + 0))).setSlot 1 (.ref (h0 + 1 + 1)))) = _
  rw [arrV_new, arrV_store, arrV_store]
  refine congrArg (arrV c 2) (funext fun j => ?_)
  by_cases j0 : j = 0
  · subst j0; simp [updV, va_rf]
  · by_cases j1 : j = 1
    · subst j1; simp [updV, va_rf]
    · have : ¬ j < 2 := by omega
      simp [updV, va_rf, j0, j1, this]
set_option maxHeartbeats 4000000 in
theorem so_mul (hx : p.tables.exec = Jvm.exec) (hb : c.code = cc) (hts : ∀ w ∈ TB, w.before args s = true) (hown : s.vm.findClass own = some m.cls) (hK : va_K D cl (xtys cA) s) (hA : ∀ q, s.heap.size ≤ q → A q) (hEv : xEv TF TM TS nS lenS bytS ad adV A s) (hac : Cond.arrayClass .float ∈ TB) (hlen : ∀ f : xF, rn f Q0 → f.2.2.2.1.length ≤ fin ∧ xsz E f.2.2.2.1 ≤ finS) (hfin : fin ≤ xt0) (hN : ∀ f, rn f Q0 → xG p l e (xroom d mc ms) s m args below meth c Q E ad cA D cl A r0 nL mc ms fin finS f) {idx : Nat} (hlk : Cond.classLink own idx "[[F" ∈ TB) (hdg : decode cc pc = .ok (.multianewarray idx 2, 4))
    (k : xwo E rc rn d Q0 (xmul (pc + 4) ls st h)) : xG p l e (xroom d mc ms) s m args below meth c Q E ad cA D cl A r0 nL mc ms fin finS (pc, ls, st, h) := by
  unfold xmul at k
  split at k
  · rename_i n k2 r
    obtain ⟨⟨hk2, hn0, hn1⟩, k⟩ := k
    subst hk2
    replace k : rn (pc + 4, ls, .ref h.1.length :: r, h.1 ++ [.inl (.array .float, 2, [some (h.1.length + 1), some (h.1.length + 2)]), .inl (.float, n.toNatClampNeg, []), .inl (.float, n.toNatClampNeg, [])], xclr (xclr (xclr h.2 h.1.length) (h.1.length + 1)) (h.1.length + 2)) Q0 := k
    obtain ⟨hl1, hl2⟩ := hlen _ k
    replace hl1 : (h.1 ++ [Sum.inl (FieldType.array .float, 2, [some (h.1.length + 1), some (h.1.length + 2)]), .inl (.float, n.toNatClampNeg, []), .inl (.float, n.toNatClampNeg, [])]).length ≤ fin := hl1
    replace hl2 : xsz E (h.1 ++ [Sum.inl (FieldType.array .float, 2, [some (h.1.length + 1), some (h.1.length + 2)]), .inl (.float, n.toNatClampNeg, []), .inl (.float, n.toNatClampNeg, [])]) ≤ finS := hl2
    have hone : xsz E [Sum.inl (FieldType.array .float, 2, [some (h.1.length + 1), some (h.1.length + 2)]), .inl (.float, n.toNatClampNeg, []), .inl (.float, n.toNatClampNeg, [])] = 2 + 2 * n.toNatClampNeg := by simp [xsz, xs1]; omega
    rw [xsz_app, hone] at hl2
    rw [List.length_append] at hl1
    simp only [List.length_cons, List.length_nil] at hl1
    intro cells slots ws H locs lsC stC e1 e2 hrel
    replace e1 : cells + fin ≤ mc + h.1.length := e1
    replace e2 : slots + finS ≤ ms + xsz E h.1 := e2
    obtain ⟨⟨hW, hm⟩, hP, hD, hS, hl, hst⟩ := hrel
    obtain ⟨_, _, rfl, rfl, _, rst, rfl, rfl, hst⟩ := hst
    intro T hT X
    obtain ⟨vm₁, c9, comp, -, fA, fC, -, -, X', step⟩ := X.multianewarray2F hx hown (ty := .float) (hts _ hlk) (arrayOver_alikeB (Vm.Alike.refl s.vm) hEv.2.2.2.2) (hts _ hac) (g := F0 m pc lsC (.int n :: .int 2 :: rst)) rfl (by rw [hb]; exact hdg) (n := 2) (k := n) (rest := rst) rfl (by decide) hn0 (by decide) (by show n.toNatClampNeg * 4 ≤ _; omega) (by omega) rfl rfl (by show cells + (1 + 2) ≤ mc; omega) (by show slots + (2 + 2 * n.toNatClampNeg) ≤ ms; omega)
    have g1 : s.vm.findClass ("[" ++ (FieldType.array .float).toString) = some (cA (.array .float)) := (hK.2 4 _ rfl).2
    have g2 : s.vm.findClass (FieldType.array .float).toString = some (cA .float) := (hK.2 3 _ rfl).2
    cases g1.symm.trans fA
    cases g2.symm.trans fC
    have z2 : (2 : Int32).toNatClampNeg = 2 := by decide
    rw [z2] at X' step
    generalize hF : Jvm.Free.Multi.fill (T.setVm vm₁) (cA (.array .float)) (cA .float) 2 n.toNatClampNeg (defaultValue .float) 2 = Fh at X' step
    have hTh : (T.setVm vm₁).heap = H := hT
    obtain ⟨f1, f2, -, -⟩ := Jvm.Free.Multi.fill_facts (T.setVm vm₁) (cA (.array .float)) (cA .float) 2 n.toNatClampNeg (defaultValue .float) 2
    rw [hF, hTh] at f1 f2
    rw [xout] at f2
    have hold : ∀ x : Nat, x < H.size → Fh.heap[x]? = H[x]? := fun x hx9 => by
      have := Jvm.Free.Multi.fill_old (T.setVm vm₁) (cA (.array .float)) (cA .float) 2 n.toNatClampNeg (defaultValue .float) (a := x) (by rw [hTh]; exact hx9) 2
      rw [hF, hTh] at this
      exact this
    have hrow : ∀ j : Nat, j < 2 → Fh.heap[H.size + 1 + j]? = some (vp_cell (cA .float) (n.toNatClampNeg, .inr (.inr (.inl (fun _ => 0))))) := fun j hj => by
      have := Jvm.Free.Multi.fill_inner (T.setVm vm₁) (cA (.array .float)) (cA .float) 2 n.toNatClampNeg (defaultValue .float) 2 j hj
      rw [hF, hTh] at this
      rw [this, vp_cell_f]
      exact congrArg some (arrV_new _ _ _)
    have hlt : ∀ (k : Nat) (q : Nat × va_E), ws[k]? = some q → q.1 < H.size := fun k q hk => (hP k q hk).lt
    have hA2 : ∀ q : Nat, H.size ≤ q → A q := fun q hq => hA q (Nat.le_trans hS.1 hq)
    have hD1 := xD3 (A := A) (H := H) (e1 := .inl (cA (.array .float), 2, .inr (.inr (.inr (.inr (fun j => if j < 2 then some (H.size + 1 + j) else none)))))) (e2 := .inl (cA .float, n.toNatClampNeg, .inr (.inr (.inl (fun _ => 0))))) (e3 := .inl (cA .float, n.toNatClampNeg, .inr (.inr (.inl (fun _ => 0))))) hD hlt hA2
    have hP1 : va_P D cl (ws ++ [(H.size, .inl (cA (.array .float), 2, .inr (.inr (.inr (.inr (fun j => if j < 2 then some (H.size + 1 + j) else none)))))), (H.size + 1, .inl (cA .float, n.toNatClampNeg, .inr (.inr (.inl (fun _ => 0))))), (H.size + 2, .inl (cA .float, n.toNatClampNeg, .inr (.inr (.inl (fun _ => 0)))))]) Fh.heap := (hP.kept (fun k9 q9 hk9 => hold q9.1 (hlt k9 q9 hk9))).app (fun k9 q9 hk9 => by
      match k9, hk9 with
      | 0, hk9 => cases hk9; exact f2
      | 1, hk9 => cases hk9; exact hrow 0 (by omega)
      | 2, hk9 => cases hk9; exact hrow 1 (by omega)
      | k9 + 3, hk9 => simp at hk9)
    generalize hw3 : ([(H.size, .inl (cA (.array .float), 2, .inr (.inr (.inr (.inr (fun j => if j < 2 then some (H.size + 1 + j) else none)))))), (H.size + 1, .inl (cA .float, n.toNatClampNeg, .inr (.inr (.inl (fun _ => 0))))), (H.size + 2, .inl (cA .float, n.toNatClampNeg, .inr (.inr (.inl (fun _ => 0)))))] : va_W) = w3 at hD1 hP1
    have hmon := xmon_app ad ws w3
    have hS1 : va_S A s.heap Fh.heap locs := ⟨by rw [f1]; have := hS.1; omega, fun q h1 h2 => (hold q (Nat.lt_of_lt_of_le h1 hS.1)).trans (hS.2.1 q h1 h2), hS.2.2⟩
    have hat : ∀ (j a9 : Nat) (e9 : va_E), w3[j]? = some (a9, e9) → h.1.length + j < xt0 → xa ad (ws ++ w3) (h.1.length + j) = some a9 := fun j a9 e9 hj hlt9 => xa_of hlt9 (e := e9) (by rw [← hW.1, List.getElem?_append_right (Nat.le_add_right _ _), Nat.add_sub_cancel_left]; exact hj)
    have hW1 : xW E ad cA (h.1 ++ [.inl (.array .float, 2, [some (h.1.length + 1), some (h.1.length + 2)]), .inl (.float, n.toNatClampNeg, []), .inl (.float, n.toNatClampNeg, [])], xclr (xclr (xclr h.2 h.1.length) (h.1.length + 1)) (h.1.length + 2)) (ws ++ w3) := by
      refine ⟨by rw [← hw3]; simp [hW.1], by show (h.1 ++ _).length ≤ xt0; rw [List.length_append]; simp only [List.length_cons, List.length_nil]; omega, fun i t hi => ?_⟩
      replace hi : (h.1 ++ [Sum.inl (FieldType.array .float, 2, [some (h.1.length + 1), some (h.1.length + 2)]), .inl (.float, n.toNatClampNeg, []), .inl (.float, n.toNatClampNeg, [])])[i]? = some t := hi
      by_cases hil : i < h.1.length
      · rw [List.getElem?_append_left hil] at hi
        obtain ⟨b9, e9, q1, q2⟩ := hW.2.2 i t hi
        refine ⟨b9, e9, by rw [List.getElem?_append_left (by rw [hW.1]; exact hil)]; exact q1, xce_row ?_ ?_ ?_ (xce_mono hmon q2)⟩
        · show x0 (x0 (x0 _ _ _) _ _) _ _ i = _
          rw [x0_row _ _ _ (show i ≠ _ by omega), x0_row _ _ _ (show i ≠ _ by omega), x0_row _ _ _ (show i ≠ _ by omega)]
        · show x0 (x0 (x0 _ _ _) _ _) _ _ i = _
          rw [x0_row _ _ _ (show i ≠ _ by omega), x0_row _ _ _ (show i ≠ _ by omega), x0_row _ _ _ (show i ≠ _ by omega)]
        · show x0 (x0 (x0 _ _ _) _ _) _ _ i = _
          rw [x0_row _ _ _ (show i ≠ _ by omega), x0_row _ _ _ (show i ≠ _ by omega), x0_row _ _ _ (show i ≠ _ by omega)]
      · rw [List.getElem?_append_right (by omega)] at hi
        obtain ⟨j, rfl⟩ : ∃ j, i = h.1.length + j := ⟨i - h.1.length, by omega⟩
        rw [Nat.add_sub_cancel_left] at hi
        have hws : (ws ++ w3)[h.1.length + j]? = w3[j]? := by rw [← hW.1, List.getElem?_append_right (Nat.le_add_right _ _), Nat.add_sub_cancel_left]
        rw [hws, ← hw3]
        match j, hi with
        | 0, hi =>
          cases hi
          refine ⟨_, _, rfl, _, rfl, fun j hj => ?_⟩
          match j, hj with
          | 0, _ => exact ⟨H.size + 1, by rw [hw3]; exact hat 1 (H.size + 1) (.inl (cA .float, n.toNatClampNeg, .inr (.inr (.inl (fun _ => 0))))) (by rw [← hw3]; rfl) (by omega), rfl⟩
          | 1, _ => exact ⟨H.size + 2, by rw [hw3]; exact hat 2 (H.size + 2) (.inl (cA .float, n.toNatClampNeg, .inr (.inr (.inl (fun _ => 0))))) (by rw [← hw3]; rfl) (by omega), rfl⟩
        | 1, hi =>
          cases hi
          refine ⟨_, _, rfl, ?_⟩
          show Sum.inl (cA .float, n.toNatClampNeg, Sum.inr (Sum.inr (Sum.inl (fun _ => 0)))) = Sum.inl (cA .float, n.toNatClampNeg, Sum.inr (Sum.inr (Sum.inl (x0 (x0 (x0 h.2.2.2 h.1.length 0) (h.1.length + 1) 0) (h.1.length + 2) 0 (h.1.length + 1)))))
          rw [x0_row _ _ _ (show h.1.length + 1 ≠ h.1.length + 2 by omega), x0_at]
        | 2, hi =>
          cases hi
          refine ⟨_, _, rfl, ?_⟩
          show Sum.inl (cA .float, n.toNatClampNeg, Sum.inr (Sum.inr (Sum.inl (fun _ => 0)))) = Sum.inl (cA .float, n.toNatClampNeg, Sum.inr (Sum.inr (Sum.inl (x0 (x0 (x0 h.2.2.2 h.1.length 0) (h.1.length + 1) 0) (h.1.length + 2) 0 (h.1.length + 2)))))
          rw [x0_at]
        | j + 3, hi => simp at hi
    have hgo := hN _ k (cells + 1 + 2) (slots + 2 + 2 * n.toNatClampNeg) (ws ++ w3) Fh.heap locs lsC (.ref H.size :: rst) (by
      show cells + 1 + 2 + fin ≤ mc + (h.1 ++ _).length
      rw [List.length_append]; simp only [List.length_cons, List.length_nil]; omega) (by
      show slots + 2 + 2 * n.toNatClampNeg + finS ≤ ms + xsz E (h.1 ++ _)
      rw [xsz_app, hone]; omega) ⟨⟨hW1, fun k a z => hmon _ _ (hm k a z)⟩, hP1, hD1, hS1, xls_mono hmon hl, ⟨_, _, rfl, ⟨H.size, by
        have := hat 0 H.size _ (by rw [← hw3]; rfl) (by omega)
        rw [Nat.add_zero] at this
        exact this, rfl⟩, xva_mono hmon hst⟩⟩
    obtain ⟨t, a1, b1⟩ := hgo Fh rfl X'
    refine ⟨t, step t ?_, b1⟩
    have e9 : T.heap.size = H.size := by rw [hT]
    rw [e9]
    exact a1
  · exact k.1.elim
theorem so_rei (hx : p.tables.exec = Jvm.exec) (hb : c.code = cc) {M : xM} (hr : meth.sig.returnType = M.2.2.2.1) (hlocks : meth.locks = false) (hK : va_K D cl (xtys cA) s) {v0 : Option Value} {h0 : xH} {ws0 : va_W} (hdg : decode cc pc = .ok (.ireturn, 1))
    (k : xwo E rc rn d (fun v' h2 => v' = v0 ∧ h2 = h0) (xrei M st h)) : xG p l e (xroom d mc ms) s m args below meth c (MQ below (xQc E ad cA D cl ws0 s.heap.size v0 h0) args s mc ms (va_A ws0 s.heap.size)) E ad cA D cl (va_A ws0 s.heap.size) (xa ad ws0) nL mc ms h0.1.length (xsz E h0.1) (pc, ls, st, h) := by
  unfold xrei at k
  split at k
  · rename_i v hM
    obtain ⟨hc, rfl, rfl⟩ := k
    intro cells slots ws H locs lsC stC e1 e2 hrel
    obtain ⟨⟨hW, hm⟩, hP, hD, hS, hl, hst⟩ := hrel
    have e1 : cells + h.1.length ≤ mc + h.1.length := e1
    have e2 : slots + xsz E h.1 ≤ ms + xsz E h.1 := e2
    obtain ⟨_, _, rfl, rfl, rfl⟩ := hst
    refine W.widen (k := mc) (n := ms) (by omega) (by omega) ?_
    exact W.iret hx hb (hr.trans hM) (fun t ht hW9 => ⟨⟨_, ws, rfl, ⟨_, rfl, rfl⟩, hW, hm, by rw [ht]; exact hP, va_K.moved hW9.alike hK, hD⟩, hS.F ht⟩) hS.2.2 hdg hlocks
  · rename_i v hM
    obtain ⟨hc, rfl, rfl⟩ := k
    intro cells slots ws H locs lsC stC e1 e2 hrel
    obtain ⟨⟨hW, hm⟩, hP, hD, hS, hl, hst⟩ := hrel
    have e1 : cells + h.1.length ≤ mc + h.1.length := e1
    have e2 : slots + xsz E h.1 ≤ ms + xsz E h.1 := e2
    obtain ⟨_, _, rfl, rfl, rfl⟩ := hst
    refine W.widen (k := mc) (n := ms) (by omega) (by omega) ?_
    exact W.zret hx hb (hr.trans hM) (congrArg Value.int hc) (fun t ht hW9 => ⟨⟨_, ws, rfl, ⟨_, rfl, rfl⟩, hW, hm, by rw [ht]; exact hP, va_K.moved hW9.alike hK, hD⟩, hS.F ht⟩) hS.2.2 hdg hlocks
  · exact k.1.elim
theorem so_rel (hx : p.tables.exec = Jvm.exec) (hb : c.code = cc) {M : xM} (hr : meth.sig.returnType = M.2.2.2.1) (hlocks : meth.locks = false) (hK : va_K D cl (xtys cA) s) {v0 : Option Value} {h0 : xH} {ws0 : va_W} (hdg : decode cc pc = .ok (.lreturn, 1))
    (k : xwo E rc rn d (fun v' h2 => v' = v0 ∧ h2 = h0) (xrel M st h)) : xG p l e (xroom d mc ms) s m args below meth c (MQ below (xQc E ad cA D cl ws0 s.heap.size v0 h0) args s mc ms (va_A ws0 s.heap.size)) E ad cA D cl (va_A ws0 s.heap.size) (xa ad ws0) nL mc ms h0.1.length (xsz E h0.1) (pc, ls, st, h) := by
  unfold xrel at k
  split at k
  · rename_i v hM
    obtain ⟨hc, rfl, rfl⟩ := k
    intro cells slots ws H locs lsC stC e1 e2 hrel
    obtain ⟨⟨hW, hm⟩, hP, hD, hS, hl, hst⟩ := hrel
    have e1 : cells + h.1.length ≤ mc + h.1.length := e1
    have e2 : slots + xsz E h.1 ≤ ms + xsz E h.1 := e2
    obtain ⟨_, _, rfl, rfl, rfl⟩ := hst
    refine W.widen (k := mc) (n := ms) (by omega) (by omega) ?_
    exact W.lret hx hb (hr.trans hM) (fun t ht hW9 => ⟨⟨_, ws, rfl, ⟨_, rfl, rfl⟩, hW, hm, by rw [ht]; exact hP, va_K.moved hW9.alike hK, hD⟩, hS.F ht⟩) hS.2.2 hdg hlocks
  · exact k.1.elim
theorem so_ref (hx : p.tables.exec = Jvm.exec) (hb : c.code = cc) {M : xM} (hr : meth.sig.returnType = M.2.2.2.1) (hlocks : meth.locks = false) (hK : va_K D cl (xtys cA) s) {v0 : Option Value} {h0 : xH} {ws0 : va_W} (hdg : decode cc pc = .ok (.freturn, 1))
    (k : xwo E rc rn d (fun v' h2 => v' = v0 ∧ h2 = h0) (xref M st h)) : xG p l e (xroom d mc ms) s m args below meth c (MQ below (xQc E ad cA D cl ws0 s.heap.size v0 h0) args s mc ms (va_A ws0 s.heap.size)) E ad cA D cl (va_A ws0 s.heap.size) (xa ad ws0) nL mc ms h0.1.length (xsz E h0.1) (pc, ls, st, h) := by
  unfold xref at k
  split at k
  · rename_i v hM
    obtain ⟨hc, rfl, rfl⟩ := k
    intro cells slots ws H locs lsC stC e1 e2 hrel
    obtain ⟨⟨hW, hm⟩, hP, hD, hS, hl, hst⟩ := hrel
    have e1 : cells + h.1.length ≤ mc + h.1.length := e1
    have e2 : slots + xsz E h.1 ≤ ms + xsz E h.1 := e2
    obtain ⟨_, _, rfl, rfl, rfl⟩ := hst
    refine W.widen (k := mc) (n := ms) (by omega) (by omega) ?_
    exact W.fret hx hb (hr.trans hM) (fun t ht hW9 => ⟨⟨_, ws, rfl, ⟨_, rfl, rfl⟩, hW, hm, by rw [ht]; exact hP, va_K.moved hW9.alike hK, hD⟩, hS.F ht⟩) hS.2.2 hdg hlocks
  · exact k.1.elim
theorem so_rea (hx : p.tables.exec = Jvm.exec) (hb : c.code = cc) {M : xM} (hr : meth.sig.returnType = M.2.2.2.1) (hlocks : meth.locks = false) (hK : va_K D cl (xtys cA) s) {v0 : Option Value} {h0 : xH} {ws0 : va_W} (hdg : decode cc pc = .ok (.areturn, 1))
    (k : xwo E rc rn d (fun v' h2 => v' = v0 ∧ h2 = h0) (xrea M st h)) : xG p l e (xroom d mc ms) s m args below meth c (MQ below (xQc E ad cA D cl ws0 s.heap.size v0 h0) args s mc ms (va_A ws0 s.heap.size)) E ad cA D cl (va_A ws0 s.heap.size) (xa ad ws0) nL mc ms h0.1.length (xsz E h0.1) (pc, ls, st, h) := by
  unfold xrea at k
  split at k
  · rename_i C v hM
    obtain ⟨hc, rfl, rfl⟩ := k
    intro cells slots ws H locs lsC stC e1 e2 hrel
    obtain ⟨⟨hW, hm⟩, hP, hD, hS, hl, hst⟩ := hrel
    have e1 : cells + h.1.length ≤ mc + h.1.length := e1
    have e2 : slots + xsz E h.1 ≤ ms + xsz E h.1 := e2
    obtain ⟨_, _, rfl, ⟨q, hq, rfl⟩, rfl⟩ := hst
    refine W.widen (k := mc) (n := ms) (by omega) (by omega) ?_
    exact W.aret hx hb (hr.trans hM) (Or.inl ⟨_, rfl⟩) (Or.inr ⟨q, rfl⟩) (fun t ht hW9 => ⟨⟨_, ws, rfl, ⟨_, rfl, q, hq, rfl⟩, hW, hm, by rw [ht]; exact hP, va_K.moved hW9.alike hK, hD⟩, hS.F ht⟩) hS.2.2 hdg hlocks
  · rename_i C v hM
    obtain ⟨hc, rfl, rfl⟩ := k
    intro cells slots ws H locs lsC stC e1 e2 hrel
    obtain ⟨⟨hW, hm⟩, hP, hD, hS, hl, hst⟩ := hrel
    have e1 : cells + h.1.length ≤ mc + h.1.length := e1
    have e2 : slots + xsz E h.1 ≤ ms + xsz E h.1 := e2
    obtain ⟨_, _, rfl, ⟨q, hq, rfl⟩, rfl⟩ := hst
    refine W.widen (k := mc) (n := ms) (by omega) (by omega) ?_
    exact W.aret hx hb (hr.trans hM) (Or.inr ⟨_, rfl⟩) (Or.inr ⟨q, rfl⟩) (fun t ht hW9 => ⟨⟨_, ws, rfl, ⟨_, rfl, q, hq, rfl⟩, hW, hm, by rw [ht]; exact hP, va_K.moved hW9.alike hK, hD⟩, hS.F ht⟩) hS.2.2 hdg hlocks
  · rename_i C hM
    obtain ⟨hc, rfl, rfl⟩ := k
    intro cells slots ws H locs lsC stC e1 e2 hrel
    obtain ⟨⟨hW, hm⟩, hP, hD, hS, hl, hst⟩ := hrel
    have e1 : cells + h.1.length ≤ mc + h.1.length := e1
    have e2 : slots + xsz E h.1 ≤ ms + xsz E h.1 := e2
    obtain ⟨_, _, rfl, rfl, rfl⟩ := hst
    refine W.widen (k := mc) (n := ms) (by omega) (by omega) ?_
    exact W.aret hx hb (hr.trans hM) (Or.inl ⟨_, rfl⟩) (Or.inl rfl) (fun t ht hW9 => ⟨⟨_, ws, rfl, ⟨_, rfl, rfl⟩, hW, hm, by rw [ht]; exact hP, va_K.moved hW9.alike hK, hD⟩, hS.F ht⟩) hS.2.2 hdg hlocks
  · rename_i C hM
    obtain ⟨hc, rfl, rfl⟩ := k
    intro cells slots ws H locs lsC stC e1 e2 hrel
    obtain ⟨⟨hW, hm⟩, hP, hD, hS, hl, hst⟩ := hrel
    have e1 : cells + h.1.length ≤ mc + h.1.length := e1
    have e2 : slots + xsz E h.1 ≤ ms + xsz E h.1 := e2
    obtain ⟨_, _, rfl, rfl, rfl⟩ := hst
    refine W.widen (k := mc) (n := ms) (by omega) (by omega) ?_
    exact W.aret hx hb (hr.trans hM) (Or.inr ⟨_, rfl⟩) (Or.inl rfl) (fun t ht hW9 => ⟨⟨_, ws, rfl, ⟨_, rfl, rfl⟩, hW, hm, by rw [ht]; exact hP, va_K.moved hW9.alike hK, hD⟩, hS.F ht⟩) hS.2.2 hdg hlocks
  · exact k.1.elim
theorem so_rev (hx : p.tables.exec = Jvm.exec) (hb : c.code = cc) {M : xM} (hr : meth.sig.returnType = M.2.2.2.1) (hlocks : meth.locks = false) (hK : va_K D cl (xtys cA) s) {v0 : Option Value} {h0 : xH} {ws0 : va_W} (hdg : decode cc pc = .ok (.return_, 1))
    (k : xwo E rc rn d (fun v' h2 => v' = v0 ∧ h2 = h0) (xrev M st h)) : xG p l e (xroom d mc ms) s m args below meth c (MQ below (xQc E ad cA D cl ws0 s.heap.size v0 h0) args s mc ms (va_A ws0 s.heap.size)) E ad cA D cl (va_A ws0 s.heap.size) (xa ad ws0) nL mc ms h0.1.length (xsz E h0.1) (pc, ls, st, h) := by
  unfold xrev at k
  split at k
  · rename_i hM
    obtain ⟨hc, rfl, rfl⟩ := k
    intro cells slots ws H locs lsC stC e1 e2 hrel
    obtain ⟨⟨hW, hm⟩, hP, hD, hS, hl, hst⟩ := hrel
    have e1 : cells + h.1.length ≤ mc + h.1.length := e1
    have e2 : slots + xsz E h.1 ≤ ms + xsz E h.1 := e2
    obtain rfl := hst
    refine W.widen (k := mc) (n := ms) (by omega) (by omega) ?_
    exact W.vret hx hb (hr.trans hM) (fun t ht hW9 => ⟨⟨_, ws, rfl, rfl, hW, hm, by rw [ht]; exact hP, va_K.moved hW9.alike hK, hD⟩, hS.F ht⟩) hS.2.2 hdg hlocks
  · exact k.1.elim
end XSR
end
section
/-! the texts: String.length() and String.charAt() -/
def xtL : xM := (⟨"java/lang/String", "length", "()I"⟩, prog_15_method_54_code, 1, some .int, "java/lang/String", fun _ => none)
def xtK : xM := (⟨"java/lang/String", "coder", "()B"⟩, prog_15_method_152_code, 1, some .byte, "java/lang/String", fun _ => none)
def xtC : xM := (⟨"java/lang/String", "charAt", "(I)C"⟩, prog_15_method_56_code, 2, some .char, "java/lang/String", fun _ => none)
def xtI : xM := (⟨"java/lang/String", "isLatin1", "()Z"⟩, prog_15_method_154_code, 1, some .boolean, "java/lang/String", fun _ => none)
def xtA : xM := (⟨"java/lang/StringLatin1", "charAt", "([BI)C"⟩, prog_16_method_2_code, 2, some .char, "java/lang/StringLatin1", fun _ => none)
def xtX : xM := (⟨"java/lang/String", "checkIndex", "(II)V"⟩, prog_15_method_155_code, 2, none, "java/lang/String", fun _ => none)
def xtP : xM := (⟨"jdk/internal/util/Preconditions", "checkIndex", "(IILjava/util/function/BiFunction;)I"⟩, prog_18_method_11_code, 3, some .int, "jdk/internal/util/Preconditions", fun _ => none)
/-- what the tables say of them -/
def xTw (TB : List Cond) : Prop := (xMok TB xtL 0 ∧ xMok TB xtK 0 ∧ xMok TB xtC 1 ∧ xMok TB xtI 0 ∧ xMok TB xtA 2 ∧ xMok TB xtX 2 ∧ xMok TB xtP 3) ∧
  (∀ M ∈ [xtL, xtK, xtC, xtI], Cond.instanceMethod M.1 ∈ TB ∧ Cond.selects "java/lang/String" M.1 M.1 ∈ TB) ∧ (∀ M ∈ [xtA, xtX, xtP], Cond.static M.1 ∈ TB) ∧
  (Cond.methodLink "java/lang/String" 335 xtK.1 ∈ TB ∧ Cond.methodLink "java/lang/String" 492 xtI.1 ∈ TB ∧ Cond.methodLink "java/lang/String" 495 xtA.1 ∈ TB ∧ Cond.methodLink "java/lang/StringLatin1" 9 xtX.1 ∈ TB ∧ Cond.methodLink "java/lang/String" 1059 xtP.1 ∈ TB) ∧
  Cond.fieldLink "java/lang/String" 38 "java/lang/String" "COMPACT_STRINGS" "Z" ∈ TB ∧ Cond.fieldLink "java/lang/String" 9 "java/lang/String" "value" "[B" ∈ TB ∧ Cond.fieldLink "java/lang/String" 15 "java/lang/String" "coder" "B" ∈ TB ∧ Cond.fieldLink "java/lang/String" 1053 "jdk/internal/util/Preconditions" "SIOOBE_FORMATTER" "Ljava/util/function/BiFunction;" ∈ TB
def xTx (TB : List Cond) (own : String) (idx n : Nat) : Prop := xTw TB ∧ (n = 0 → Cond.methodLink own idx xtL.1 ∈ TB) ∧ (n = 1 → Cond.methodLink own idx xtC.1 ∈ TB)
/-- an index inside is not below 0 and below the length -/
theorem xt_in {i : Int32} {N : Nat} (hN : N < 2 ^ 31) (h : vp_in i N) : ¬ i < 0 ∧ i < Int32.ofNat N := by
  obtain ⟨j, hj, rfl⟩ := vp_in_of h hN
  exact ⟨nI_pos (by omega), nI_lt hj hN⟩
/-- the texts on paper are those of the machine -/
def xTxE (E : xE) (nS : Nat) (lenS : List Nat) (bytS : List (List Int32)) : Prop := ∀ k, 1 ≤ E.2.2.1 k → k < nS ∧ lenS.getD k 0 = E.2.2.1 k ∧ E.2.2.1 k < 2 ^ 31 ∧ ∀ j, (bytS.getD k []).getD j 0 &&& 255 = E.2.2.2 k j
def xtr (k : Nat) : Room := { frames := k, cells := 0, slots := 0, locals := 60 * k }
def xPt (nS : Nat) (lenS : List Nat) (bytS : List (List Int32)) (ad adV : Nat → Nat) (A : Nat → Prop) (av : List Value) : Array Value → State → Prop := va_Pc av (fun U => xTe nS lenS bytS ad adV A U U.heap)
def xQt (v : Option Value) : Array Value → State → Outcome → State → Prop := fun _ st oc t => oc = .returned v ∧ t.heap = st.heap
def xTm (l : Launch) (TB : List Cond) (nS : Nat) (lenS : List Nat) (bytS : List (List Int32)) (ad adV : Nat → Nat) (A : Nat → Prop) (k : Nat) (M : xM) (av : List Value) (v : Option Value) : Prop := Met l M.1 (xws TB M) (xtr k) (xPt nS lenS bytS ad adV A av) (xQt v) 0 0 (fun _ => False)
def xTF (TB : List Cond) (nS : Nat) (lenS : List Nat) (bytS : List (List Int32)) (ad adV : Nat → Nat) (A : Nat → Prop) (M : xM) (p : Program) (s : State) (m : MethodId) (args : Array Value) (meth : Method) (c : Code) : Prop :=
  p.tables.exec = Jvm.exec ∧ c.code = M.2.1 ∧ c.maxLocals = M.2.2.1 ∧ meth.sig.returnType = M.2.2.2.1 ∧ s.vm.findClass M.1.cls = some m.cls ∧ (∀ w ∈ TB, w.before args s = true) ∧ meth.locks = false ∧ xTe nS lenS bytS ad adV A s s.heap
section XTX
variable {l : Launch} {TB : List Cond} {nS : Nat} {lenS : List Nat} {bytS : List (List Int32)} {ad adV : Nat → Nat} {A : Nat → Prop}
theorem xTm_of {k : Nat} {M : xM} {av : List Value} {v : Option Value} (hp : plainName M.1.cls = true)
    (h : ∀ {p : Program} {e : Env} {s : State} {m : MethodId} {below : List Frame} {meth : Method} {c : Code}, xTF TB nS lenS bytS ad adV A M p s m av.toArray meth c → W p l e (xtr k) s m av.toArray below meth c s.heap [] 0 0 (MQ below (xQt v) av.toArray s 0 0 (fun _ => False)) (F0 m 0 ((lg_sl av ++ List.replicate (M.2.2.1 - (lg_sl av).length) Slot.unset).toArray) [])) : xTm l TB nS lenS bytS ad adV A k M av v := by
  refine Met.ofW (cc := M.2.1) (maxL := M.2.2.1) (ret := M.2.2.2.1) hp rfl ?_
  intro p e s m args below meth c s₁ B hml hv
  obtain ⟨rfl, hTe⟩ := hv
  have hts := atoms_spec (ws := xws TB M) B.pre
  rw [lg_entry_eq]
  exact h ⟨B.exec, B.bytes, hml, B.returns, findClass_of_methodNamed B.named, fun w hw => hts w (List.mem_cons_of_mem _ hw), B.notSynchronized, hTe⟩
variable {p : Program} {e : Env} {R : Room} {s : State} {m : MethodId} {args : Array Value} {below : List Frame} {meth : Method} {c : Code} {Q : State → Prop} {H : Heap} {locs : List Loc} {cells slots pc : Nat} {ls : Array Slot} {cc : ByteArray} {nL : Nat} {own : String}
/-- behind a call that changes nothing -/
theorem xcallT {v : Option Value} {a : Array Value} {st0 rest : List Value} (hr : va_Run p l e R s m args below meth c H locs cells slots 0 0 (F0 m pc ls st0) rest (xQt v a) (fun _ => False)) (k : W p l e R s m args below meth c H locs cells slots Q (F0 m (pc + 3) ls (v.toList ++ rest))) : W p l e R s m args below meth c H locs cells slots Q (F0 m pc ls st0) := by
  intro T hT X
  obtain ⟨v9, st₀, t, T', L, h0, X', hL, e1, e2, ⟨hv, hh⟩, stp⟩ := hr T hT X
  cases hv
  have hL0 : L = [] := List.eq_nil_iff_forall_not_mem.mpr (fun q hq => hL q hq)
  subst hL0
  rw [List.append_nil] at X'
  obtain ⟨t2, a1, b1⟩ := k T' (by rw [e1, hh, h0]) X'
  exact ⟨t2, stp t2 a1, b1⟩
theorem xpreT {av : List Value} (hTe : xTe nS lenS bytS ad adV A s s.heap) (hS : va_S A s.heap H locs) : PreS s H (xPt nS lenS bytS ad adV A av) av :=
  ⟨fun a U g mk q => ⟨q.1, xTe.moved (u := U) (U := U.calling g mk a) (Vm.Alike.refl U.vm) q.2⟩, fun U hU hW => ⟨rfl, by show xTe nS lenS bytS ad adV A U U.heap; rw [hU]; exact (xTe.moved hW.alike hTe).kept hS.2.1⟩⟩
theorem xtS {k n idx : Nat} {M : xM} {As rest : List Value} {v : Option Value} (hx : p.tables.exec = Jvm.exec) (hb : c.code = cc) (hml : c.maxLocals = nL) (hown : s.vm.findClass own = some m.cls) (hts : ∀ w ∈ TB, w.before args s = true) (hgd : ∀ w ∈ TB, goodWord w = true) (hM : xMok TB M n) (hlk : Cond.methodLink own idx M.1 ∈ TB) (hst : Cond.static M.1 ∈ TB) (hTe : xTe nS lenS bytS ad adV A s s.heap) (hS : va_S A s.heap H locs) (hm : xTm l TB nS lenS bytS ad adV A k M As v) (hR : k + 1 ≤ R.frames ∧ 60 * k + 60 ≤ R.locals) (hn : As.length = n) (hsz : ls.size = nL) (hW : xcat rest ≤ 8) (hc : cells ≤ R.cells ∧ slots ≤ R.slots) (hdg : decode cc pc = .ok (.invokestatic idx, 3))
    (kk : W p l e R s m args below meth c H locs cells slots Q (F0 m (pc + 3) ls (v.toList ++ rest))) : W p l e R s m args below meth c H locs cells slots Q (F0 m pc ls (As.reverse ++ rest)) := by
  refine xcallT (a := As.toArray) (va_runS (As := As) (rest := rest) ⟨hx, hb, hml, hown, hts⟩ hm (va_cwS n hts (fun w hw => ?_) rfl rfl rfl hM.2.2.1 (by
    show k + 1 ≤ R.frames ∧ 8 + (_ + 11) + 60 * k ≤ R.locals
    have := hM.2.2.2
    omega)) (xpreT hTe hS) rfl hn hsz rfl (by show 2 * 0 + xcat rest ≤ 8; omega) hdg ⟨hc.1, hc.2⟩) kk
  have hg := xgood hgd hM
  unfold va_wsS at hw
  rcases List.mem_append.mp hw with z | z
  · simp only [List.mem_cons, List.not_mem_nil, or_false] at z
    rcases z with rfl | rfl | rfl
    · exact ⟨hlk, good_of_word (hgd _ hlk)⟩
    · exact ⟨hst, good_of_word (hgd _ hst)⟩
    · exact ⟨hM.2.1, good_of_word (hgd _ hM.2.1)⟩
  · exact hg w z
theorem xtV {k n idx i : Nat} {M : xM} {As rest : List Value} {v : Option Value} (hx : p.tables.exec = Jvm.exec) (hb : c.code = cc) (hml : c.maxLocals = nL) (hown : s.vm.findClass own = some m.cls) (hts : ∀ w ∈ TB, w.before args s = true) (hgd : ∀ w ∈ TB, goodWord w = true) (hM : xMok TB M n) (hcl : M.1.cls = "java/lang/String") (hlk : Cond.methodLink own idx M.1 ∈ TB) (hin : Cond.instanceMethod M.1 ∈ TB ∧ Cond.selects "java/lang/String" M.1 M.1 ∈ TB) (hi : i < nS) (hTe : xTe nS lenS bytS ad adV A s s.heap) (hS : va_S A s.heap H locs) (hm : xTm l TB nS lenS bytS ad adV A k M (.ref (ad i) :: As) v) (hR : k + 1 ≤ R.frames ∧ 60 * k + 60 ≤ R.locals) (hn : As.length = n) (hsz : ls.size = nL) (hW : xcat rest ≤ 8) (hc : cells ≤ R.cells ∧ slots ≤ R.slots) (hdg : decode cc pc = .ok (.invokevirtual idx, 3))
    (kk : W p l e R s m args below meth c H locs cells slots Q (F0 m (pc + 3) ls (v.toList ++ rest))) : W p l e R s m args below meth c H locs cells slots Q (F0 m pc ls (As.reverse ++ .ref (ad i) :: rest)) := by
  have hpre := xpreT (av := .ref (ad i) :: As) hTe hS
  refine xcallT (a := (Value.ref (ad i) :: As).toArray) (va_runV (As := As) (rest := rest) ⟨hx, hb, hml, hown, hts⟩ hm (cwV (C := "java/lang/String") n hts (fun w hw => ?_) rfl rfl rfl ⟨hcl, hM.2.2.1⟩ (by
    show k + 1 ≤ R.frames ∧ 8 + (_ + 11) + 60 * k ≤ R.locals
    have := hM.2.2.2
    omega)) ⟨hpre.1, vk_recv hTe.1 hi hS, hpre.2⟩ rfl hn hsz rfl (by show 2 * 0 + xcat rest ≤ 8; omega) hdg ⟨hc.1, hc.2⟩) kk
  have hg := xgood hgd hM
  unfold wsV at hw
  rcases List.mem_append.mp hw with z | z
  · simp only [List.mem_cons, List.not_mem_nil, or_false] at z
    rcases z with rfl | rfl | rfl | rfl
    · exact ⟨hlk, good_of_word (hgd _ hlk)⟩
    · exact ⟨hin.1, good_of_word (hgd _ hin.1)⟩
    · exact ⟨hin.2, good_of_word (hgd _ hin.2)⟩
    · rw [← hcl]; exact ⟨hM.2.1, good_of_word (hgd _ hM.2.1)⟩
  · exact hg w z
theorem d_xtP_0 : decode xtP.2.1 0 = .ok (.iload_n 0, 1) := by decide +kernel
theorem d_xtP_1 : decode xtP.2.1 1 = .ok (.ifCond .lt 8, 3) := by decide +kernel
theorem d_xtP_4 : decode xtP.2.1 4 = .ok (.iload_n 0, 1) := by decide +kernel
theorem d_xtP_5 : decode xtP.2.1 5 = .ok (.iload_n 1, 1) := by decide +kernel
theorem d_xtP_6 : decode xtP.2.1 6 = .ok (.if_icmp .lt 10, 3) := by decide +kernel
theorem d_xtP_16 : decode xtP.2.1 16 = .ok (.iload_n 0, 1) := by decide +kernel
theorem d_xtP_17 : decode xtP.2.1 17 = .ok (.ireturn, 1) := by decide +kernel
theorem d_xtX_0 : decode xtX.2.1 0 = .ok (.iload_n 0, 1) := by decide +kernel
theorem d_xtX_1 : decode xtX.2.1 1 = .ok (.iload_n 1, 1) := by decide +kernel
theorem d_xtX_2 : decode xtX.2.1 2 = .ok (.getstatic 1053, 3) := by decide +kernel
theorem d_xtX_5 : decode xtX.2.1 5 = .ok (.invokestatic 1059, 3) := by decide +kernel
theorem d_xtX_8 : decode xtX.2.1 8 = .ok (.pop, 1) := by decide +kernel
theorem d_xtX_9 : decode xtX.2.1 9 = .ok (.return_, 1) := by decide +kernel
theorem d_xtA_0 : decode xtA.2.1 0 = .ok (.iload_n 1, 1) := by decide +kernel
theorem d_xtA_1 : decode xtA.2.1 1 = .ok (.aload_n 0, 1) := by decide +kernel
theorem d_xtA_2 : decode xtA.2.1 2 = .ok (.arraylength, 1) := by decide +kernel
theorem d_xtA_3 : decode xtA.2.1 3 = .ok (.invokestatic 9, 3) := by decide +kernel
theorem d_xtA_6 : decode xtA.2.1 6 = .ok (.aload_n 0, 1) := by decide +kernel
theorem d_xtA_7 : decode xtA.2.1 7 = .ok (.iload_n 1, 1) := by decide +kernel
theorem d_xtA_8 : decode xtA.2.1 8 = .ok (.baload, 1) := by decide +kernel
theorem d_xtA_9 : decode xtA.2.1 9 = .ok (.sipush 255, 3) := by decide +kernel
theorem d_xtA_12 : decode xtA.2.1 12 = .ok (.iand, 1) := by decide +kernel
theorem d_xtA_13 : decode xtA.2.1 13 = .ok (.i2c, 1) := by decide +kernel
theorem d_xtA_14 : decode xtA.2.1 14 = .ok (.ireturn, 1) := by decide +kernel
theorem d_xtI_0 : decode xtI.2.1 0 = .ok (.getstatic 38, 3) := by decide +kernel
theorem d_xtI_3 : decode xtI.2.1 3 = .ok (.ifCond .eq 14, 3) := by decide +kernel
theorem d_xtI_6 : decode xtI.2.1 6 = .ok (.aload_n 0, 1) := by decide +kernel
theorem d_xtI_7 : decode xtI.2.1 7 = .ok (.getfield 15, 3) := by decide +kernel
theorem d_xtI_10 : decode xtI.2.1 10 = .ok (.ifCond .ne 7, 3) := by decide +kernel
theorem d_xtI_13 : decode xtI.2.1 13 = .ok (.iconst 1, 1) := by decide +kernel
theorem d_xtI_14 : decode xtI.2.1 14 = .ok (.goto 4, 3) := by decide +kernel
theorem d_xtI_18 : decode xtI.2.1 18 = .ok (.ireturn, 1) := by decide +kernel
theorem d_xtK_0 : decode xtK.2.1 0 = .ok (.getstatic 38, 3) := by decide +kernel
theorem d_xtK_3 : decode xtK.2.1 3 = .ok (.ifCond .eq 10, 3) := by decide +kernel
theorem d_xtK_6 : decode xtK.2.1 6 = .ok (.aload_n 0, 1) := by decide +kernel
theorem d_xtK_7 : decode xtK.2.1 7 = .ok (.getfield 15, 3) := by decide +kernel
theorem d_xtK_10 : decode xtK.2.1 10 = .ok (.goto 4, 3) := by decide +kernel
theorem d_xtK_14 : decode xtK.2.1 14 = .ok (.ireturn, 1) := by decide +kernel
theorem d_xtL_0 : decode xtL.2.1 0 = .ok (.aload_n 0, 1) := by decide +kernel
theorem d_xtL_1 : decode xtL.2.1 1 = .ok (.getfield 9, 3) := by decide +kernel
theorem d_xtL_4 : decode xtL.2.1 4 = .ok (.arraylength, 1) := by decide +kernel
theorem d_xtL_5 : decode xtL.2.1 5 = .ok (.aload_n 0, 1) := by decide +kernel
theorem d_xtL_6 : decode xtL.2.1 6 = .ok (.invokevirtual 335, 3) := by decide +kernel
theorem d_xtL_9 : decode xtL.2.1 9 = .ok (.ishr, 1) := by decide +kernel
theorem d_xtL_10 : decode xtL.2.1 10 = .ok (.ireturn, 1) := by decide +kernel
theorem d_xtC_0 : decode xtC.2.1 0 = .ok (.aload_n 0, 1) := by decide +kernel
theorem d_xtC_1 : decode xtC.2.1 1 = .ok (.invokevirtual 492, 3) := by decide +kernel
theorem d_xtC_4 : decode xtC.2.1 4 = .ok (.ifCond .eq 12, 3) := by decide +kernel
theorem d_xtC_7 : decode xtC.2.1 7 = .ok (.aload_n 0, 1) := by decide +kernel
theorem d_xtC_8 : decode xtC.2.1 8 = .ok (.getfield 9, 3) := by decide +kernel
theorem d_xtC_11 : decode xtC.2.1 11 = .ok (.iload_n 1, 1) := by decide +kernel
theorem d_xtC_12 : decode xtC.2.1 12 = .ok (.invokestatic 495, 3) := by decide +kernel
theorem d_xtC_15 : decode xtC.2.1 15 = .ok (.ireturn, 1) := by decide +kernel
theorem xt_P {i N : Int32} {q : Value} (hq : lg_sl [.int i, .int N, q] = [.val (.int i), .val (.int N), .val q]) (h0 : ¬ i < 0) (h1 : i < N) : xTm l TB nS lenS bytS ad adV A 0 xtP [.int i, .int N, q] (some (.int i)) := by
  refine xTm_of (by decide +kernel) (fun hF => ?_)
  obtain ⟨hx, hb, hml, hr, hown, hts, hlocks, hTe⟩ := hF
  rw [hq]
  refine lv_iload_n hx hb d_xtP_0 rfl rfl ?_
  refine lv_if_lt hx hb d_xtP_1 (tgt := 9) (by decide) (fun z => absurd z h0) (fun _ => ?_)
  refine lv_iload_n hx hb d_xtP_4 rfl rfl ?_
  refine lv_iload_n hx hb d_xtP_5 rfl rfl ?_
  refine lv_icmp_lt hx hb d_xtP_6 (tgt := 16) (by decide) (fun _ => ?_) (fun z => absurd h1 z)
  refine lv_iload_n hx hb d_xtP_16 rfl rfl ?_
  exact W.iret hx hb hr (fun t ht hW9 => ⟨rfl, ht⟩) (fun _ z => by cases z) d_xtP_17 hlocks
theorem xt_X {i N : Int32} (hw : xTw TB) (hgd : ∀ w ∈ TB, goodWord w = true) (h0 : ¬ i < 0) (h1 : i < N) : xTm l TB nS lenS bytS ad adV A 1 xtX [.int i, .int N] none := by
  refine xTm_of (by decide +kernel) (fun {p e s m below meth c} hF => ?_)
  obtain ⟨hx, hb, hml, hr, hown, hts, hlocks, hTe⟩ := hF
  refine lv_iload_n hx hb d_xtX_0 rfl rfl ?_
  refine lv_iload_n hx hb d_xtX_1 rfl rfl ?_
  have go : ∀ q : Value, lg_sl [.int i, .int N, q] = [.val (.int i), .val (.int N), .val q] → va_Z "jdk/internal/util/Preconditions" "SIOOBE_FORMATTER" "Ljava/util/function/BiFunction;" q A s s.heap → W p l e (xtr 1) s m [Value.int i, Value.int N].toArray below meth c s.heap [] 0 0 (MQ below (xQt none) [Value.int i, Value.int N].toArray s 0 0 (fun _ => False)) (F0 m (0 + 1 + 1) (([.val (.int i), .val (.int N)] : List Slot) ++ List.replicate 0 Slot.unset).toArray [.int N, .int i]) := ?_
  · rcases hTe.2.2 with z | ⟨t, z⟩
    · exact go _ rfl z
    · exact go _ rfl z
  intro q hq z
  refine va_gets hx hb z va_S.rf hown (hts _ hw.2.2.2.2.2.2.2) (fun _ h => h) d_xtX_2 ?_
  refine xtS (As := [.int i, .int N, q]) (rest := []) hx hb hml hown hts hgd hw.1.2.2.2.2.2.2 hw.2.2.2.1.2.2.2.2 (hw.2.2.1 _ (by simp)) hTe va_S.rf (xt_P hq h0 h1) ⟨by decide, by decide⟩ rfl rfl (by decide) ⟨Nat.le_refl _, Nat.le_refl _⟩ d_xtX_5 ?_
  refine lv_pop hx hb d_xtX_8 rfl ?_
  exact W.vret hx hb hr (fun t ht hW9 => ⟨rfl, ht⟩) (fun _ z => by cases z) d_xtX_9 hlocks
theorem xt_A {i : Int32} {k : Nat} (hw : xTw TB) (hgd : ∀ w ∈ TB, goodWord w = true) (hk : k < nS) (hN : lenS.getD k 0 < 2 ^ 31) (hin : vp_in i (lenS.getD k 0)) : xTm l TB nS lenS bytS ad adV A 2 xtA [.ref (adV k), .int i] (some (.int ((bytS.getD k []).getD i.toNatClampNeg 0 &&& 255))) := by
  refine xTm_of (by decide +kernel) (fun hF => ?_)
  obtain ⟨hx, hb, hml, hr, hown, hts, hlocks, hTe⟩ := hF
  have hT := (hTe.1.1 k hk).2.2.2
  have h01 := xt_in hN hin
  refine lv_iload_n hx hb d_xtA_0 rfl rfl ?_
  refine lv_aload_n hx hb d_xtA_1 rfl rfl ?_
  refine va_tlen hx hb hT va_S.rf rfl d_xtA_2 ?_
  refine xtS (As := [.int i, .int (Int32.ofNat (lenS.getD k 0))]) (rest := []) hx hb hml hown hts hgd hw.1.2.2.2.2.2.1 hw.2.2.2.1.2.2.2.1 (hw.2.2.1 _ (by simp)) hTe va_S.rf (xt_X hw hgd h01.1 h01.2) ⟨by decide, by decide⟩ rfl rfl (by decide) ⟨Nat.le_refl _, Nat.le_refl _⟩ d_xtA_3 ?_
  refine lv_aload_n hx hb d_xtA_6 rfl rfl ?_
  refine lv_iload_n hx hb d_xtA_7 rfl rfl ?_
  refine va_tb hx hb hT va_S.rf hin rfl d_xtA_8 ?_
  refine lv_sipush hx hb d_xtA_9 (v := 255) (by decide) ?_
  refine lv_iand hx hb d_xtA_12 ?_
  refine lv_i2c hx hb d_xtA_13 (sc_c2 _) ?_
  exact W.zret hx hb hr (sc_nar _) (fun t ht hW9 => ⟨rfl, ht⟩) (fun _ z => by cases z) d_xtA_14 hlocks
theorem xt_I {k : Nat} (hw : xTw TB) (hk : k < nS) : xTm l TB nS lenS bytS ad adV A 0 xtI [.ref (ad k)] (some (.int 1)) := by
  refine xTm_of (by decide +kernel) (fun hF => ?_)
  obtain ⟨hx, hb, hml, hr, hown, hts, hlocks, hTe⟩ := hF
  refine va_gets hx hb hTe.2.1 va_S.rf hown (hts _ hw.2.2.2.2.1) (fun _ h => h) d_xtI_0 ?_
  refine lv_if_eq hx hb d_xtI_3 (tgt := 17) (by decide) (fun z => absurd z (by decide)) (fun _ => ?_)
  refine lv_aload_n hx hb d_xtI_6 rfl rfl ?_
  refine vk_getf hx hb (hTe.1.1 k hk).2.1 va_S.rf hown (hts _ hw.2.2.2.2.2.2.1) (fun _ h => h) d_xtI_7 ?_
  refine lv_if_ne hx hb d_xtI_10 (tgt := 17) (by decide) (fun z => absurd rfl z) (fun _ => ?_)
  refine lv_iconst hx hb d_xtI_13 (v := 1) (by decide) ?_
  refine lv_goto hx hb d_xtI_14 (tgt := 18) (by decide) ?_
  exact W.zret hx hb hr (by decide) (fun t ht hW9 => ⟨rfl, ht⟩) (fun _ z => by cases z) d_xtI_18 hlocks
theorem xt_K {k : Nat} (hw : xTw TB) (hk : k < nS) : xTm l TB nS lenS bytS ad adV A 0 xtK [.ref (ad k)] (some (.int 0)) := by
  refine xTm_of (by decide +kernel) (fun hF => ?_)
  obtain ⟨hx, hb, hml, hr, hown, hts, hlocks, hTe⟩ := hF
  refine va_gets hx hb hTe.2.1 va_S.rf hown (hts _ hw.2.2.2.2.1) (fun _ h => h) d_xtK_0 ?_
  refine lv_if_eq hx hb d_xtK_3 (tgt := 13) (by decide) (fun z => absurd z (by decide)) (fun _ => ?_)
  refine lv_aload_n hx hb d_xtK_6 rfl rfl ?_
  refine vk_getf hx hb (hTe.1.1 k hk).2.1 va_S.rf hown (hts _ hw.2.2.2.2.2.2.1) (fun _ h => h) d_xtK_7 ?_
  refine lv_goto hx hb d_xtK_10 (tgt := 14) (by decide) ?_
  exact W.zret hx hb hr (by decide) (fun t ht hW9 => ⟨rfl, ht⟩) (fun _ z => by cases z) d_xtK_14 hlocks
theorem xt_L {k : Nat} (hw : xTw TB) (hgd : ∀ w ∈ TB, goodWord w = true) (hk : k < nS) (hN : lenS.getD k 0 < 2 ^ 31) : xTm l TB nS lenS bytS ad adV A 1 xtL [.ref (ad k)] (some (.int (nI (lenS.getD k 0)))) := by
  refine xTm_of (by decide +kernel) (fun hF => ?_)
  obtain ⟨hx, hb, hml, hr, hown, hts, hlocks, hTe⟩ := hF
  refine lv_aload_n hx hb d_xtL_0 rfl rfl ?_
  refine vk_getf hx hb (hTe.1.1 k hk).2.2.1 va_S.rf hown (hts _ hw.2.2.2.2.2.1) (fun _ h => h) d_xtL_1 ?_
  refine va_tlen hx hb (hTe.1.1 k hk).2.2.2 va_S.rf (v := nI (lenS.getD k 0)) rfl d_xtL_4 ?_
  refine lv_aload_n hx hb d_xtL_5 rfl rfl ?_
  refine xtV (As := []) (rest := [.int (nI (lenS.getD k 0))]) hx hb hml hown hts hgd hw.1.2.1 rfl hw.2.2.2.1.1 (hw.2.1 _ (by simp)) hk hTe va_S.rf (xt_K hw hk) ⟨by decide, by decide⟩ rfl rfl (show (1 : Nat) ≤ 8 by decide) ⟨Nat.le_refl _, Nat.le_refl _⟩ d_xtL_6 ?_
  refine lv_ishr hx hb d_xtL_9 ?_
  rw [show nI (lenS.getD k 0) >>> ((0 : Int32) &&& 31) = nI (lenS.getD k 0) from sc_shr0 (by omega)]
  exact W.iret hx hb hr (fun t ht hW9 => ⟨rfl, ht⟩) (fun _ z => by cases z) d_xtL_10 hlocks
theorem xt_C {i : Int32} {k : Nat} (hw : xTw TB) (hgd : ∀ w ∈ TB, goodWord w = true) (hk : k < nS) (hN : lenS.getD k 0 < 2 ^ 31) (hin : vp_in i (lenS.getD k 0)) : xTm l TB nS lenS bytS ad adV A 3 xtC [.ref (ad k), .int i] (some (.int ((bytS.getD k []).getD i.toNatClampNeg 0 &&& 255))) := by
  refine xTm_of (by decide +kernel) (fun hF => ?_)
  obtain ⟨hx, hb, hml, hr, hown, hts, hlocks, hTe⟩ := hF
  refine lv_aload_n hx hb d_xtC_0 rfl rfl ?_
  refine xtV (As := []) (rest := []) hx hb hml hown hts hgd hw.1.2.2.2.1 rfl hw.2.2.2.1.2.1 (hw.2.1 _ (by simp)) hk hTe va_S.rf (xt_I hw hk) ⟨by decide, by decide⟩ rfl rfl (by decide) ⟨Nat.le_refl _, Nat.le_refl _⟩ d_xtC_1 ?_
  refine lv_if_eq hx hb d_xtC_4 (tgt := 16) (by decide) (fun z => absurd z (by decide)) (fun _ => ?_)
  refine lv_aload_n hx hb d_xtC_7 rfl rfl ?_
  refine vk_getf hx hb (hTe.1.1 k hk).2.2.1 va_S.rf hown (hts _ hw.2.2.2.2.2.1) (fun _ h => h) d_xtC_8 ?_
  refine lv_iload_n hx hb d_xtC_11 rfl rfl ?_
  refine xtS (As := [.ref (adV k), .int i]) (rest := []) hx hb hml hown hts hgd hw.1.2.2.2.2.1 hw.2.2.2.1.2.2.1 (hw.2.2.1 _ (by simp)) hTe va_S.rf (xt_A hw hgd hk hN hin) ⟨by decide, by decide⟩ rfl rfl (by decide) ⟨Nat.le_refl _, Nat.le_refl _⟩ d_xtC_12 ?_
  exact W.zret hx hb hr (sc_nar _) (fun t ht hW9 => ⟨rfl, ht⟩) (fun _ z => by cases z) d_xtC_15 hlocks
end XTX
section XTS
variable {p : Program} {l : Launch} {e : Env} {R : Room} {s : State} {m : MethodId} {args : Array Value} {below : List Frame} {meth : Method} {c : Code} {Q : State → Prop}
variable {E : xE} {ad adV : Nat → Nat} {cA : FieldType → ClassId} {D : va_G} {cl : List vw_C} {A : Nat → Prop} {r0 : Nat → Option Nat} {nL mc ms fin finS : Nat}
variable {rc : Nat → xM → xF → xP → Prop} {rn : xF → xP → Prop} {d : Nat} {Q0 : xP} {pc : Nat} {ls : xL} {st : List Value} {h : xH} {cc : ByteArray} {TB : List Cond} {TF : List xNF} {TM : List xNM} {TS : List xTS} {nS : Nat} {lenS : List Nat} {bytS : List (List Int32)} {own : String}
theorem so_tlen (hx : p.tables.exec = Jvm.exec) (hb : c.code = cc) (hml : c.maxLocals = nL) (hown : s.vm.findClass own = some m.cls) (hts : ∀ w ∈ TB, w.before args s = true) (hgd : ∀ w ∈ TB, goodWord w = true) (hEv : xEv TF TM TS nS lenS bytS ad adV A s) (hX : xTxE E nS lenS bytS) (hlen : ∀ f : xF, rn f Q0 → f.2.2.2.1.length ≤ fin ∧ xsz E f.2.2.2.1 ≤ finS) (hN : ∀ f, rn f Q0 → xG p l e (xroom d mc ms) s m args below meth c Q E ad cA D cl A r0 nL mc ms fin finS f) {idx : Nat} (h1 : xTx TB own idx 0) (hdg : decode cc pc = .ok (.invokevirtual idx, 3))
    (k : xwo E rc rn d Q0 (xivv E (pc + 3) [0] ls st h)) : xG p l e (xroom d mc ms) s m args below meth c Q E ad cA D cl A r0 nL mc ms fin finS (pc, ls, st, h) := by
  replace k : xwo E rc rn d Q0 (xtl E (pc + 3) ls st h) := k
  unfold xtl at k
  split at k
  · rename_i a r
    cases hb8 : (Nat.ble xt0 a && Nat.ble (xcat r) 8 && Nat.ble 1 (E.2.2.1 (a - xt0))) with
    | false => rw [hb8] at k; exact k.1.elim
    | true =>
      rw [hb8] at k
      rw [Bool.and_eq_true, Bool.and_eq_true] at hb8
      have hc8 := Nat.le_of_ble_eq_true hb8.1.2
      obtain ⟨hk, hN1, hN2, -⟩ := hX _ (Nat.le_of_ble_eq_true hb8.2)
      have hfin := hlen _ k
      intro cells slots ws H locs lsC stC e1 e2 hrel
      obtain ⟨hW, hP, hD, hS, hl, hst⟩ := hrel
      obtain ⟨_, rst, rfl, ⟨q, hq, rfl⟩, hst⟩ := hst
      have hcr := xva_cat hst
      have hq : q = ad (a - xt0) := by
        unfold xa at hq
        rw [hb8.1.1] at hq
        exact (Option.some.inj hq).symm
      subst hq
      have f1 : h.1.length ≤ fin := hfin.1
      have f2 : xsz E h.1 ≤ finS := hfin.2
      have e1' : cells + fin ≤ mc + h.1.length := e1
      have e2' : slots + finS ≤ ms + xsz E h.1 := e2
      refine xtV (As := []) (rest := rst) hx hb hml hown hts hgd h1.1.1.1 rfl (h1.2.1 rfl) (h1.1.2.1 _ (by simp)) hk hEv.2.2.1 hS (xt_L h1.1 hgd hk (by omega)) ⟨show 1 + 1 ≤ d + 8 by omega, show 60 * 1 + 60 ≤ 60 * d + 400 by omega⟩ rfl hl.1 (by omega) ⟨show cells ≤ mc by omega, show slots ≤ ms by omega⟩ hdg ?_
      rw [hN1]
      exact hN _ k cells slots ws H locs lsC _ e1 e2 ⟨hW, hP, hD, hS, hl, ⟨_, _, rfl, rfl, hst⟩⟩
  · exact k.1.elim
theorem so_tchr (hx : p.tables.exec = Jvm.exec) (hb : c.code = cc) (hml : c.maxLocals = nL) (hown : s.vm.findClass own = some m.cls) (hts : ∀ w ∈ TB, w.before args s = true) (hgd : ∀ w ∈ TB, goodWord w = true) (hEv : xEv TF TM TS nS lenS bytS ad adV A s) (hX : xTxE E nS lenS bytS) (hlen : ∀ f : xF, rn f Q0 → f.2.2.2.1.length ≤ fin ∧ xsz E f.2.2.2.1 ≤ finS) (hN : ∀ f, rn f Q0 → xG p l e (xroom d mc ms) s m args below meth c Q E ad cA D cl A r0 nL mc ms fin finS f) {idx : Nat} (h1 : xTx TB own idx 1) (hdg : decode cc pc = .ok (.invokevirtual idx, 3))
    (k : xwo E rc rn d Q0 (xivv E (pc + 3) [1] ls st h)) : xG p l e (xroom d mc ms) s m args below meth c Q E ad cA D cl A r0 nL mc ms fin finS (pc, ls, st, h) := by
  replace k : xwo E rc rn d Q0 (xtc E (pc + 3) ls st h) := k
  unfold xtc at k
  split at k
  · rename_i i a r
    cases hb8 : (Nat.ble xt0 a && Nat.ble (xcat r) 8) with
    | false => rw [hb8] at k; exact k.1.elim
    | true =>
      rw [hb8] at k
      rw [Bool.and_eq_true] at hb8
      have hc8 := Nat.le_of_ble_eq_true hb8.2
      obtain ⟨hin, k⟩ := k
      obtain ⟨hk, hN1, hN2, hN3⟩ := hX (a - xt0) (by
        have : ¬ (i < 0 ∨ E.2.2.1 (a - xt0) ≤ i.toNatClampNeg) := hin
        rcases Nat.eq_zero_or_pos (E.2.2.1 (a - xt0)) with z | z
        · exact absurd (Or.inr (by omega)) this
        · exact z)
      have hfin := hlen _ k
      intro cells slots ws H locs lsC stC e1 e2 hrel
      obtain ⟨hW, hP, hD, hS, hl, hst⟩ := hrel
      obtain ⟨_, _, rfl, rfl, _, rst, rfl, ⟨q, hq, rfl⟩, hst⟩ := hst
      have hcr := xva_cat hst
      have hq : q = ad (a - xt0) := by
        unfold xa at hq
        rw [hb8.1] at hq
        exact (Option.some.inj hq).symm
      subst hq
      have f1 : h.1.length ≤ fin := hfin.1
      have f2 : xsz E h.1 ≤ finS := hfin.2
      have e1' : cells + fin ≤ mc + h.1.length := e1
      have e2' : slots + finS ≤ ms + xsz E h.1 := e2
      refine xtV (As := [.int i]) (rest := rst) hx hb hml hown hts hgd h1.1.1.2.2.1 rfl (h1.2.2 rfl) (h1.1.2.1 _ (by simp)) hk hEv.2.2.1 hS (xt_C h1.1 hgd hk (by omega) (by rw [hN1]; exact hin)) ⟨show 3 + 1 ≤ d + 8 by omega, show 60 * 3 + 60 ≤ 60 * d + 400 by omega⟩ rfl hl.1 (by omega) ⟨show cells ≤ mc by omega, show slots ≤ ms by omega⟩ hdg ?_
      rw [hN3]
      exact hN _ k cells slots ws H locs lsC _ e1 e2 ⟨hW, hP, hD, hS, hl, ⟨_, _, rfl, rfl, hst⟩⟩
  · exact k.1.elim
end XTS
end
