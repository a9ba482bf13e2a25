-- ===== PART A: goes FIRST, ahead of the names: the tables' words, and 'selects' of the private methods out of them =====
/-- a private method of a class that the tables say can be made, by its rows of tables_1 -/
def lw_okq (q : MethodName × Nat) : Prop := (q.1.cls ≠ "java/lang/invoke/MethodHandle" ∧ q.1.cls ≠ "java/lang/invoke/VarHandle") ∧ Cond.instantiable q.1.cls q.2 ∈ tables_1 ∧ Cond.privateMethod q.1 ∈ tables_1 ∧ Cond.instanceMethod q.1 ∈ tables_1
theorem lw_p0 : lw_okq (⟨"GrowDecoder$Beliefs", "sendToPoints", "(LGrowDecoder$Graph;)V"⟩, 9) := ⟨⟨by decide +kernel, by decide +kernel⟩, List.mem_of_getElem? (i := 125) (by decide +kernel), List.mem_of_getElem? (i := 273) (by decide +kernel), List.mem_of_getElem? (i := 274) (by decide +kernel)⟩
theorem lw_p1 : lw_okq (⟨"GrowDecoder$Beliefs", "gather", "(LGrowDecoder$Graph;)V"⟩, 9) := ⟨⟨by decide +kernel, by decide +kernel⟩, List.mem_of_getElem? (i := 125) (by decide +kernel), List.mem_of_getElem? (i := 286) (by decide +kernel), List.mem_of_getElem? (i := 287) (by decide +kernel)⟩
theorem lw_p2 : lw_okq (⟨"GrowDecoder$Beliefs", "gatherAt", "(II)V"⟩, 9) := ⟨⟨by decide +kernel, by decide +kernel⟩, List.mem_of_getElem? (i := 125) (by decide +kernel), List.mem_of_getElem? (i := 290) (by decide +kernel), List.mem_of_getElem? (i := 291) (by decide +kernel)⟩
theorem lw_p3 : lw_okq (⟨"GrowDecoder$Beliefs", "sendToEdges", "(LGrowDecoder$Graph;)V"⟩, 9) := ⟨⟨by decide +kernel, by decide +kernel⟩, List.mem_of_getElem? (i := 125) (by decide +kernel), List.mem_of_getElem? (i := 297) (by decide +kernel), List.mem_of_getElem? (i := 298) (by decide +kernel)⟩
theorem lw_p4 : lw_okq (⟨"GrowDecoder$Beliefs", "sentBack", "(LGrowDecoder$Graph;II)I"⟩, 9) := ⟨⟨by decide +kernel, by decide +kernel⟩, List.mem_of_getElem? (i := 125) (by decide +kernel), List.mem_of_getElem? (i := 301) (by decide +kernel), List.mem_of_getElem? (i := 302) (by decide +kernel)⟩
theorem lw_p5 : lw_okq (⟨"GrowDecoder$Beliefs", "negativeEdges", "(LGrowDecoder$Graph;)J"⟩, 9) := ⟨⟨by decide +kernel, by decide +kernel⟩, List.mem_of_getElem? (i := 125) (by decide +kernel), List.mem_of_getElem? (i := 306) (by decide +kernel), List.mem_of_getElem? (i := 307) (by decide +kernel)⟩
theorem lw_p6 : lw_okq (⟨"GrowDecoder$Rows", "putInOrder", "(LGrowDecoder$Graph;LGrowDecoder$Beliefs;)V"⟩, 7) := ⟨⟨by decide +kernel, by decide +kernel⟩, List.mem_of_getElem? (i := 164) (by decide +kernel), List.mem_of_getElem? (i := 334) (by decide +kernel), List.mem_of_getElem? (i := 335) (by decide +kernel)⟩
theorem lw_p7 : lw_okq (⟨"GrowDecoder$Rows", "insert", "(I)V"⟩, 7) := ⟨⟨by decide +kernel, by decide +kernel⟩, List.mem_of_getElem? (i := 164) (by decide +kernel), List.mem_of_getElem? (i := 339) (by decide +kernel), List.mem_of_getElem? (i := 340) (by decide +kernel)⟩
theorem lw_p8 : lw_okq (⟨"GrowDecoder$Rows", "reduce", "(IJ)V"⟩, 7) := ⟨⟨by decide +kernel, by decide +kernel⟩, List.mem_of_getElem? (i := 164) (by decide +kernel), List.mem_of_getElem? (i := 345) (by decide +kernel), List.mem_of_getElem? (i := 346) (by decide +kernel)⟩
theorem lw_p9 : lw_okq (⟨"GrowDecoder$Growth", "begin", "(LGrowDecoder$Graph;)V"⟩, 13) := ⟨⟨by decide +kernel, by decide +kernel⟩, List.mem_of_getElem? (i := 71) (by decide +kernel), List.mem_of_getElem? (i := 383) (by decide +kernel), List.mem_of_getElem? (i := 384) (by decide +kernel)⟩
theorem lw_p10 : lw_okq (⟨"GrowDecoder$Growth", "pointsOfOddClusters", "(LGrowDecoder$Graph;)I"⟩, 13) := ⟨⟨by decide +kernel, by decide +kernel⟩, List.mem_of_getElem? (i := 71) (by decide +kernel), List.mem_of_getElem? (i := 388) (by decide +kernel), List.mem_of_getElem? (i := 389) (by decide +kernel)⟩
theorem lw_p11 : lw_okq (⟨"GrowDecoder$Growth", "feed", "(LGrowDecoder$Graph;I)J"⟩, 13) := ⟨⟨by decide +kernel, by decide +kernel⟩, List.mem_of_getElem? (i := 71) (by decide +kernel), List.mem_of_getElem? (i := 401) (by decide +kernel), List.mem_of_getElem? (i := 402) (by decide +kernel)⟩
theorem lw_p12 : lw_okq (⟨"GrowDecoder$Growth", "joinFull", "(LGrowDecoder$Graph;J)V"⟩, 13) := ⟨⟨by decide +kernel, by decide +kernel⟩, List.mem_of_getElem? (i := 71) (by decide +kernel), List.mem_of_getElem? (i := 405) (by decide +kernel), List.mem_of_getElem? (i := 406) (by decide +kernel)⟩
theorem lw_p13 : lw_okq (⟨"GrowDecoder$Growth", "join", "(II)V"⟩, 13) := ⟨⟨by decide +kernel, by decide +kernel⟩, List.mem_of_getElem? (i := 71) (by decide +kernel), List.mem_of_getElem? (i := 409) (by decide +kernel), List.mem_of_getElem? (i := 410) (by decide +kernel)⟩
theorem lw_p14 : lw_okq (⟨"GrowDecoder$Growth", "peel", "(LGrowDecoder$Graph;)V"⟩, 13) := ⟨⟨by decide +kernel, by decide +kernel⟩, List.mem_of_getElem? (i := 71) (by decide +kernel), List.mem_of_getElem? (i := 415) (by decide +kernel), List.mem_of_getElem? (i := 416) (by decide +kernel)⟩
theorem lw_p15 : lw_okq (⟨"GrowDecoder$Growth", "walkFromRoots", "(LGrowDecoder$Graph;)V"⟩, 13) := ⟨⟨by decide +kernel, by decide +kernel⟩, List.mem_of_getElem? (i := 71) (by decide +kernel), List.mem_of_getElem? (i := 419) (by decide +kernel), List.mem_of_getElem? (i := 420) (by decide +kernel)⟩
def lw_privs_1 : List (MethodName × Nat) := [(⟨"GrowDecoder$Beliefs", "sendToPoints", "(LGrowDecoder$Graph;)V"⟩, 9), (⟨"GrowDecoder$Beliefs", "gather", "(LGrowDecoder$Graph;)V"⟩, 9), (⟨"GrowDecoder$Beliefs", "gatherAt", "(II)V"⟩, 9), (⟨"GrowDecoder$Beliefs", "sendToEdges", "(LGrowDecoder$Graph;)V"⟩, 9), (⟨"GrowDecoder$Beliefs", "sentBack", "(LGrowDecoder$Graph;II)I"⟩, 9), (⟨"GrowDecoder$Beliefs", "negativeEdges", "(LGrowDecoder$Graph;)J"⟩, 9), (⟨"GrowDecoder$Rows", "putInOrder", "(LGrowDecoder$Graph;LGrowDecoder$Beliefs;)V"⟩, 7), (⟨"GrowDecoder$Rows", "insert", "(I)V"⟩, 7), (⟨"GrowDecoder$Rows", "reduce", "(IJ)V"⟩, 7), (⟨"GrowDecoder$Growth", "begin", "(LGrowDecoder$Graph;)V"⟩, 13), (⟨"GrowDecoder$Growth", "pointsOfOddClusters", "(LGrowDecoder$Graph;)I"⟩, 13), (⟨"GrowDecoder$Growth", "feed", "(LGrowDecoder$Graph;I)J"⟩, 13), (⟨"GrowDecoder$Growth", "joinFull", "(LGrowDecoder$Graph;J)V"⟩, 13), (⟨"GrowDecoder$Growth", "join", "(II)V"⟩, 13), (⟨"GrowDecoder$Growth", "peel", "(LGrowDecoder$Graph;)V"⟩, 13), (⟨"GrowDecoder$Growth", "walkFromRoots", "(LGrowDecoder$Graph;)V"⟩, 13)]
theorem lw_r1 : ∀ q ∈ lw_privs_1, lw_okq q := List.forall_mem_cons.mpr ⟨lw_p0, List.forall_mem_cons.mpr ⟨lw_p1, List.forall_mem_cons.mpr ⟨lw_p2, List.forall_mem_cons.mpr ⟨lw_p3, List.forall_mem_cons.mpr ⟨lw_p4, List.forall_mem_cons.mpr ⟨lw_p5, List.forall_mem_cons.mpr ⟨lw_p6, List.forall_mem_cons.mpr ⟨lw_p7, List.forall_mem_cons.mpr ⟨lw_p8, List.forall_mem_cons.mpr ⟨lw_p9, List.forall_mem_cons.mpr ⟨lw_p10, List.forall_mem_cons.mpr ⟨lw_p11, List.forall_mem_cons.mpr ⟨lw_p12, List.forall_mem_cons.mpr ⟨lw_p13, List.forall_mem_cons.mpr ⟨lw_p14, List.forall_mem_cons.mpr ⟨lw_p15, fun _ h => absurd h List.not_mem_nil⟩⟩⟩⟩⟩⟩⟩⟩⟩⟩⟩⟩⟩⟩⟩⟩
theorem lw_p16 : lw_okq (⟨"GrowDecoder$Growth", "rootOf", "(LGrowDecoder$Graph;I)I"⟩, 13) := ⟨⟨by decide +kernel, by decide +kernel⟩, List.mem_of_getElem? (i := 71) (by decide +kernel), List.mem_of_getElem? (i := 423) (by decide +kernel), List.mem_of_getElem? (i := 424) (by decide +kernel)⟩
theorem lw_p17 : lw_okq (⟨"GrowDecoder$Growth", "reach", "(II)V"⟩, 13) := ⟨⟨by decide +kernel, by decide +kernel⟩, List.mem_of_getElem? (i := 71) (by decide +kernel), List.mem_of_getElem? (i := 428) (by decide +kernel), List.mem_of_getElem? (i := 429) (by decide +kernel)⟩
theorem lw_p18 : lw_okq (⟨"GrowDecoder$Growth", "walkOnFrom", "(LGrowDecoder$Graph;I)V"⟩, 13) := ⟨⟨by decide +kernel, by decide +kernel⟩, List.mem_of_getElem? (i := 71) (by decide +kernel), List.mem_of_getElem? (i := 432) (by decide +kernel), List.mem_of_getElem? (i := 433) (by decide +kernel)⟩
theorem lw_p19 : lw_okq (⟨"java/lang/Throwable", "fillInStackTrace", "(I)Ljava/lang/Throwable;"⟩, 6) := ⟨⟨by decide +kernel, by decide +kernel⟩, List.mem_of_getElem? (i := 477) (by decide +kernel), List.mem_of_getElem? (i := 475) (by decide +kernel), List.mem_of_getElem? (i := 476) (by decide +kernel)⟩
theorem lw_p20 : lw_okq (⟨"GrowDecoderModel", "isPoint", "(I)Z"⟩, 26) := ⟨⟨by decide +kernel, by decide +kernel⟩, List.mem_of_getElem? (i := 553) (by decide +kernel), List.mem_of_getElem? (i := 651) (by decide +kernel), List.mem_of_getElem? (i := 652) (by decide +kernel)⟩
theorem lw_p21 : lw_okq (⟨"GrowDecoderModel", "growAll", "()Z"⟩, 26) := ⟨⟨by decide +kernel, by decide +kernel⟩, List.mem_of_getElem? (i := 553) (by decide +kernel), List.mem_of_getElem? (i := 663) (by decide +kernel), List.mem_of_getElem? (i := 664) (by decide +kernel)⟩
theorem lw_p22 : lw_okq (⟨"GrowDecoderModel", "findOdd", "()Z"⟩, 26) := ⟨⟨by decide +kernel, by decide +kernel⟩, List.mem_of_getElem? (i := 553) (by decide +kernel), List.mem_of_getElem? (i := 667) (by decide +kernel), List.mem_of_getElem? (i := 668) (by decide +kernel)⟩
theorem lw_p23 : lw_okq (⟨"GrowDecoderModel", "growEdges", "()Z"⟩, 26) := ⟨⟨by decide +kernel, by decide +kernel⟩, List.mem_of_getElem? (i := 553) (by decide +kernel), List.mem_of_getElem? (i := 671) (by decide +kernel), List.mem_of_getElem? (i := 672) (by decide +kernel)⟩
theorem lw_p24 : lw_okq (⟨"GrowDecoderModel", "merge", "(II)V"⟩, 26) := ⟨⟨by decide +kernel, by decide +kernel⟩, List.mem_of_getElem? (i := 553) (by decide +kernel), List.mem_of_getElem? (i := 675) (by decide +kernel), List.mem_of_getElem? (i := 676) (by decide +kernel)⟩
theorem lw_p25 : lw_okq (⟨"GrowDecoderModel", "raise", "(I)I"⟩, 26) := ⟨⟨by decide +kernel, by decide +kernel⟩, List.mem_of_getElem? (i := 553) (by decide +kernel), List.mem_of_getElem? (i := 679) (by decide +kernel), List.mem_of_getElem? (i := 680) (by decide +kernel)⟩
theorem lw_p26 : lw_okq (⟨"GrowDecoderModel", "isOfFix", "(I)Z"⟩, 26) := ⟨⟨by decide +kernel, by decide +kernel⟩, List.mem_of_getElem? (i := 553) (by decide +kernel), List.mem_of_getElem? (i := 683) (by decide +kernel), List.mem_of_getElem? (i := 684) (by decide +kernel)⟩
theorem lw_p27 : lw_okq (⟨"GrowDecoderModel", "rootOf", "(I)I"⟩, 26) := ⟨⟨by decide +kernel, by decide +kernel⟩, List.mem_of_getElem? (i := 553) (by decide +kernel), List.mem_of_getElem? (i := 687) (by decide +kernel), List.mem_of_getElem? (i := 688) (by decide +kernel)⟩
theorem lw_p28 : lw_okq (⟨"GrowDecoderModel", "sendToPoints", "()V"⟩, 26) := ⟨⟨by decide +kernel, by decide +kernel⟩, List.mem_of_getElem? (i := 553) (by decide +kernel), List.mem_of_getElem? (i := 708) (by decide +kernel), List.mem_of_getElem? (i := 709) (by decide +kernel)⟩
theorem lw_p29 : lw_okq (⟨"GrowDecoderModel", "isInner", "(I)Z"⟩, 26) := ⟨⟨by decide +kernel, by decide +kernel⟩, List.mem_of_getElem? (i := 553) (by decide +kernel), List.mem_of_getElem? (i := 712) (by decide +kernel), List.mem_of_getElem? (i := 713) (by decide +kernel)⟩
theorem lw_p30 : lw_okq (⟨"GrowDecoderModel", "sendToEdges", "()V"⟩, 26) := ⟨⟨by decide +kernel, by decide +kernel⟩, List.mem_of_getElem? (i := 553) (by decide +kernel), List.mem_of_getElem? (i := 719) (by decide +kernel), List.mem_of_getElem? (i := 720) (by decide +kernel)⟩
theorem lw_p31 : lw_okq (⟨"GrowDecoderModel", "answerOf", "(I)I"⟩, 26) := ⟨⟨by decide +kernel, by decide +kernel⟩, List.mem_of_getElem? (i := 553) (by decide +kernel), List.mem_of_getElem? (i := 723) (by decide +kernel), List.mem_of_getElem? (i := 724) (by decide +kernel)⟩
def lw_privs_2 : List (MethodName × Nat) := [(⟨"GrowDecoder$Growth", "rootOf", "(LGrowDecoder$Graph;I)I"⟩, 13), (⟨"GrowDecoder$Growth", "reach", "(II)V"⟩, 13), (⟨"GrowDecoder$Growth", "walkOnFrom", "(LGrowDecoder$Graph;I)V"⟩, 13), (⟨"java/lang/Throwable", "fillInStackTrace", "(I)Ljava/lang/Throwable;"⟩, 6), (⟨"GrowDecoderModel", "isPoint", "(I)Z"⟩, 26), (⟨"GrowDecoderModel", "growAll", "()Z"⟩, 26), (⟨"GrowDecoderModel", "findOdd", "()Z"⟩, 26), (⟨"GrowDecoderModel", "growEdges", "()Z"⟩, 26), (⟨"GrowDecoderModel", "merge", "(II)V"⟩, 26), (⟨"GrowDecoderModel", "raise", "(I)I"⟩, 26), (⟨"GrowDecoderModel", "isOfFix", "(I)Z"⟩, 26), (⟨"GrowDecoderModel", "rootOf", "(I)I"⟩, 26), (⟨"GrowDecoderModel", "sendToPoints", "()V"⟩, 26), (⟨"GrowDecoderModel", "isInner", "(I)Z"⟩, 26), (⟨"GrowDecoderModel", "sendToEdges", "()V"⟩, 26), (⟨"GrowDecoderModel", "answerOf", "(I)I"⟩, 26)]
theorem lw_r2 : ∀ q ∈ lw_privs_2, lw_okq q := List.forall_mem_cons.mpr ⟨lw_p16, List.forall_mem_cons.mpr ⟨lw_p17, List.forall_mem_cons.mpr ⟨lw_p18, List.forall_mem_cons.mpr ⟨lw_p19, List.forall_mem_cons.mpr ⟨lw_p20, List.forall_mem_cons.mpr ⟨lw_p21, List.forall_mem_cons.mpr ⟨lw_p22, List.forall_mem_cons.mpr ⟨lw_p23, List.forall_mem_cons.mpr ⟨lw_p24, List.forall_mem_cons.mpr ⟨lw_p25, List.forall_mem_cons.mpr ⟨lw_p26, List.forall_mem_cons.mpr ⟨lw_p27, List.forall_mem_cons.mpr ⟨lw_p28, List.forall_mem_cons.mpr ⟨lw_p29, List.forall_mem_cons.mpr ⟨lw_p30, List.forall_mem_cons.mpr ⟨lw_p31, fun _ h => absurd h List.not_mem_nil⟩⟩⟩⟩⟩⟩⟩⟩⟩⟩⟩⟩⟩⟩⟩⟩
theorem lw_p32 : lw_okq (⟨"GrowDecoderModel", "guessed", "()J"⟩, 26) := ⟨⟨by decide +kernel, by decide +kernel⟩, List.mem_of_getElem? (i := 553) (by decide +kernel), List.mem_of_getElem? (i := 727) (by decide +kernel), List.mem_of_getElem? (i := 728) (by decide +kernel)⟩
theorem lw_p33 : lw_okq (⟨"GrowDecoderModel", "belief", "(I)I"⟩, 26) := ⟨⟨by decide +kernel, by decide +kernel⟩, List.mem_of_getElem? (i := 553) (by decide +kernel), List.mem_of_getElem? (i := 731) (by decide +kernel), List.mem_of_getElem? (i := 732) (by decide +kernel)⟩
theorem lw_p34 : lw_okq (⟨"GrowDecoderModel", "syndromeOf", "(J)I"⟩, 26) := ⟨⟨by decide +kernel, by decide +kernel⟩, List.mem_of_getElem? (i := 553) (by decide +kernel), List.mem_of_getElem? (i := 735) (by decide +kernel), List.mem_of_getElem? (i := 736) (by decide +kernel)⟩
theorem lw_p35 : lw_okq (⟨"GrowDecoderModel", "isEdge", "(I)Z"⟩, 26) := ⟨⟨by decide +kernel, by decide +kernel⟩, List.mem_of_getElem? (i := 553) (by decide +kernel), List.mem_of_getElem? (i := 743) (by decide +kernel), List.mem_of_getElem? (i := 744) (by decide +kernel)⟩
theorem lw_p36 : lw_okq (⟨"GrowDecoderModel", "choose", "()V"⟩, 26) := ⟨⟨by decide +kernel, by decide +kernel⟩, List.mem_of_getElem? (i := 553) (by decide +kernel), List.mem_of_getElem? (i := 755) (by decide +kernel), List.mem_of_getElem? (i := 756) (by decide +kernel)⟩
theorem lw_p37 : lw_okq (⟨"GrowDecoderModel", "nextEdge", "()I"⟩, 26) := ⟨⟨by decide +kernel, by decide +kernel⟩, List.mem_of_getElem? (i := 553) (by decide +kernel), List.mem_of_getElem? (i := 759) (by decide +kernel), List.mem_of_getElem? (i := 760) (by decide +kernel)⟩
theorem lw_p38 : lw_okq (⟨"GrowDecoderModel", "orderOf", "(I)I"⟩, 26) := ⟨⟨by decide +kernel, by decide +kernel⟩, List.mem_of_getElem? (i := 553) (by decide +kernel), List.mem_of_getElem? (i := 763) (by decide +kernel), List.mem_of_getElem? (i := 764) (by decide +kernel)⟩
theorem lw_p39 : lw_okq (⟨"GrowDecoderModel", "left", "(I)I"⟩, 26) := ⟨⟨by decide +kernel, by decide +kernel⟩, List.mem_of_getElem? (i := 553) (by decide +kernel), List.mem_of_getElem? (i := 767) (by decide +kernel), List.mem_of_getElem? (i := 768) (by decide +kernel)⟩
def lw_privs_3 : List (MethodName × Nat) := [(⟨"GrowDecoderModel", "guessed", "()J"⟩, 26), (⟨"GrowDecoderModel", "belief", "(I)I"⟩, 26), (⟨"GrowDecoderModel", "syndromeOf", "(J)I"⟩, 26), (⟨"GrowDecoderModel", "isEdge", "(I)Z"⟩, 26), (⟨"GrowDecoderModel", "choose", "()V"⟩, 26), (⟨"GrowDecoderModel", "nextEdge", "()I"⟩, 26), (⟨"GrowDecoderModel", "orderOf", "(I)I"⟩, 26), (⟨"GrowDecoderModel", "left", "(I)I"⟩, 26)]
theorem lw_r3 : ∀ q ∈ lw_privs_3, lw_okq q := List.forall_mem_cons.mpr ⟨lw_p32, List.forall_mem_cons.mpr ⟨lw_p33, List.forall_mem_cons.mpr ⟨lw_p34, List.forall_mem_cons.mpr ⟨lw_p35, List.forall_mem_cons.mpr ⟨lw_p36, List.forall_mem_cons.mpr ⟨lw_p37, List.forall_mem_cons.mpr ⟨lw_p38, List.forall_mem_cons.mpr ⟨lw_p39, fun _ h => absurd h List.not_mem_nil⟩⟩⟩⟩⟩⟩⟩⟩
def lw_privs : List (MethodName × Nat) := lw_privs_1 ++ (lw_privs_2 ++ (lw_privs_3))
def lw_tbl : List Cond := k2_sels lw_privs ++ tables_1
theorem lw_privs_ok : ∀ q ∈ lw_privs, lw_okq q := by
  show ∀ q ∈ lw_privs_1 ++ (lw_privs_2 ++ (lw_privs_3)), lw_okq q
  exact List.forall_mem_append.mpr ⟨lw_r1, List.forall_mem_append.mpr ⟨lw_r2, lw_r3⟩⟩

/-- the words that a state keeps: what every method of the claim may use -/
def gd_tb : List Cond := lw_tbl.filter goodWord
theorem gd_in {w : Cond} (h : w ∈ lw_tbl) (g : goodWord w = true) : w ∈ gd_tb := List.mem_filter.mpr ⟨h, g⟩
theorem gd_gi {w : Cond} (h : w ∈ gd_tb) : GoodIn gd_tb (w :: gd_tb) := fun v hv => by
  have hm : v ∈ gd_tb := by
    rcases List.mem_cons.mp hv with e | e
    · rw [e]; exact h
    · exact e
  exact ⟨hm, good_of_word (List.mem_filter.mp hm).2⟩
def R_G : String := "GrowDecoder$Graph"
def R_W : String := "GrowDecoder$Growth"
def R_B : String := "GrowDecoder$Beliefs"
def R_R : String := "GrowDecoder$Rows"
def R_X : String := "GrowDecoder"
def R_M : String := "GrowDecoderModel"
def R_L : String := "GrowDecoderLaw"
def R_JA : String := "java/util/Arrays"
def R_JI : String := "java/lang/Integer"
def F_G : u_T := fun k => match k with
  | 0 => ("GrowDecoder$Graph", "first", "[I", true)
  | 1 => ("GrowDecoder$Graph", "second", "[I", true)
  | 2 => ("GrowDecoder$Graph", "lengths", "[I", true)
  | 3 => ("GrowDecoder$Graph", "points", "I", false)
  | 4 => ("GrowDecoder$Graph", "edges", "I", false)
  | 5 => ("GrowDecoder$Graph", "boundaries", "I", false)
  | _ => ("GrowDecoder$Graph", "fired", "I", false)
def t_G : Nat → FieldType := fun k => match k with
  | 0 => .array .int
  | 1 => .array .int
  | 2 => .array .int
  | 3 => .int
  | 4 => .int
  | 5 => .int
  | _ => .int
abbrev w_G : List Cond := u_ws R_G F_G 7
theorem n_G : ∀ a, a < 7 → ∀ b, b < 7 → a ≠ b → (F_G a).2.1 ≠ (F_G b).2.1 := by decide +kernel
theorem t_G_ok : ∀ k, k < 7 → parseFieldDescriptor (F_G k).2.2.1 = some (t_G k) := by decide +kernel
theorem i_G : ∀ w ∈ w_G, w ∈ gd_tb := by decide +kernel
def F_W : u_T := fun k => match k with
  | 0 => ("GrowDecoder$Growth", "least", "[I", true)
  | 1 => ("GrowDecoder$Growth", "members", "[I", true)
  | 2 => ("GrowDecoder$Growth", "sizes", "[I", true)
  | 3 => ("GrowDecoder$Growth", "walk", "[I", true)
  | 4 => ("GrowDecoder$Growth", "reachedBy", "[I", true)
  | 5 => ("GrowDecoder$Growth", "walked", "I", false)
  | 6 => ("GrowDecoder$Growth", "seen", "I", false)
  | 7 => ("GrowDecoder$Growth", "points", "I", false)
  | 8 => ("GrowDecoder$Growth", "edges", "I", false)
  | 9 => ("GrowDecoder$Growth", "clusters", "I", false)
  | 10 => ("GrowDecoder$Growth", "rounds", "I", false)
  | 11 => ("GrowDecoder$Growth", "branches", "J", false)
  | _ => ("GrowDecoder$Growth", "fix", "J", false)
def t_W : Nat → FieldType := fun k => match k with
  | 0 => .array .int
  | 1 => .array .int
  | 2 => .array .int
  | 3 => .array .int
  | 4 => .array .int
  | 5 => .int
  | 6 => .int
  | 7 => .int
  | 8 => .int
  | 9 => .int
  | 10 => .int
  | 11 => .long
  | _ => .long
abbrev w_W : List Cond := u_ws R_W F_W 13
theorem n_W : ∀ a, a < 13 → ∀ b, b < 13 → a ≠ b → (F_W a).2.1 ≠ (F_W b).2.1 := by decide +kernel
theorem t_W_ok : ∀ k, k < 13 → parseFieldDescriptor (F_W k).2.2.1 = some (t_W k) := by decide +kernel
theorem i_W : ∀ w ∈ w_W, w ∈ gd_tb := by decide +kernel
def F_B : u_T := fun k => match k with
  | 0 => ("GrowDecoder$Beliefs", "fromFirst", "[I", true)
  | 1 => ("GrowDecoder$Beliefs", "fromSecond", "[I", true)
  | 2 => ("GrowDecoder$Beliefs", "toFirst", "[I", true)
  | 3 => ("GrowDecoder$Beliefs", "toSecond", "[I", true)
  | 4 => ("GrowDecoder$Beliefs", "least", "[I", true)
  | 5 => ("GrowDecoder$Beliefs", "next", "[I", true)
  | 6 => ("GrowDecoder$Beliefs", "flipped", "I", false)
  | 7 => ("GrowDecoder$Beliefs", "negative", "J", false)
  | _ => ("GrowDecoder$Beliefs", "held", "Z", false)
def t_B : Nat → FieldType := fun k => match k with
  | 0 => .array .int
  | 1 => .array .int
  | 2 => .array .int
  | 3 => .array .int
  | 4 => .array .int
  | 5 => .array .int
  | 6 => .int
  | 7 => .long
  | _ => .boolean
abbrev w_B : List Cond := u_ws R_B F_B 9
theorem n_B : ∀ a, a < 9 → ∀ b, b < 9 → a ≠ b → (F_B a).2.1 ≠ (F_B b).2.1 := by decide +kernel
theorem t_B_ok : ∀ k, k < 9 → parseFieldDescriptor (F_B k).2.2.1 = some (t_B k) := by decide +kernel
theorem i_B : ∀ w ∈ w_B, w ∈ gd_tb := by decide +kernel
def F_R : u_T := fun k => match k with
  | 0 => ("GrowDecoder$Rows", "order", "[I", true)
  | 1 => ("GrowDecoder$Rows", "weights", "[I", true)
  | 2 => ("GrowDecoder$Rows", "rowPoints", "[I", true)
  | 3 => ("GrowDecoder$Rows", "rowEdges", "[J", true)
  | 4 => ("GrowDecoder$Rows", "count", "I", false)
  | 5 => ("GrowDecoder$Rows", "leftPoints", "I", false)
  | _ => ("GrowDecoder$Rows", "usedEdges", "J", false)
def t_R : Nat → FieldType := fun k => match k with
  | 0 => .array .int
  | 1 => .array .int
  | 2 => .array .int
  | 3 => .array .long
  | 4 => .int
  | 5 => .int
  | _ => .long
abbrev w_R : List Cond := u_ws R_R F_R 7
theorem n_R : ∀ a, a < 7 → ∀ b, b < 7 → a ≠ b → (F_R a).2.1 ≠ (F_R b).2.1 := by decide +kernel
theorem t_R_ok : ∀ k, k < 7 → parseFieldDescriptor (F_R k).2.2.1 = some (t_R k) := by decide +kernel
theorem i_R : ∀ w ∈ w_R, w ∈ gd_tb := by decide +kernel
def F_X : u_T := fun k => match k with
  | 0 => ("GrowDecoder", "graph", "LGrowDecoder$Graph;", true)
  | 1 => ("GrowDecoder", "growth", "LGrowDecoder$Growth;", true)
  | 2 => ("GrowDecoder", "beliefs", "LGrowDecoder$Beliefs;", true)
  | _ => ("GrowDecoder", "rows", "LGrowDecoder$Rows;", true)
def t_X : Nat → FieldType := fun k => match k with
  | 0 => .object "GrowDecoder$Graph"
  | 1 => .object "GrowDecoder$Growth"
  | 2 => .object "GrowDecoder$Beliefs"
  | _ => .object "GrowDecoder$Rows"
abbrev w_X : List Cond := u_ws R_X F_X 4
theorem n_X : ∀ a, a < 4 → ∀ b, b < 4 → a ≠ b → (F_X a).2.1 ≠ (F_X b).2.1 := by decide +kernel
theorem t_X_ok : ∀ k, k < 4 → parseFieldDescriptor (F_X k).2.2.1 = some (t_X k) := by decide +kernel
theorem i_X : ∀ w ∈ w_X, w ∈ gd_tb := by decide +kernel
def F_M : u_T := fun k => match k with
  | 0 => ("GrowDecoderModel", "thrown", "I", false)
  | 1 => ("GrowDecoderModel", "points", "I", false)
  | 2 => ("GrowDecoderModel", "edges", "I", false)
  | 3 => ("GrowDecoderModel", "fired", "I", false)
  | 4 => ("GrowDecoderModel", "isBoundary", "[Z", true)
  | 5 => ("GrowDecoderModel", "end", "[I", true)
  | 6 => ("GrowDecoderModel", "length", "[I", true)
  | 7 => ("GrowDecoderModel", "isGrown", "Z", false)
  | 8 => ("GrowDecoderModel", "grownPoints", "I", false)
  | 9 => ("GrowDecoderModel", "grownEdges", "I", false)
  | 10 => ("GrowDecoderModel", "rounds", "I", false)
  | 11 => ("GrowDecoderModel", "branches", "J", false)
  | 12 => ("GrowDecoderModel", "fix", "J", false)
  | 13 => ("GrowDecoderModel", "label", "[I", true)
  | 14 => ("GrowDecoderModel", "size", "[I", true)
  | 15 => ("GrowDecoderModel", "isOdd", "[Z", true)
  | 16 => ("GrowDecoderModel", "isFull", "[Z", true)
  | 17 => ("GrowDecoderModel", "isWithRoot", "[Z", true)
  | 18 => ("GrowDecoderModel", "isBelieved", "Z", false)
  | 19 => ("GrowDecoderModel", "toEdge", "[I", true)
  | 20 => ("GrowDecoderModel", "toPoint", "[I", true)
  | 21 => ("GrowDecoderModel", "rowOf", "[I", true)
  | 22 => ("GrowDecoderModel", "madeOf", "[J", true)
  | 23 => ("GrowDecoderModel", "isTaken", "[Z", true)
  | 24 => ("GrowDecoderModel", "chosen", "I", false)
  | _ => ("GrowDecoderModel", "made", "J", false)
def t_M : Nat → FieldType := fun k => match k with
  | 0 => .int
  | 1 => .int
  | 2 => .int
  | 3 => .int
  | 4 => .array .boolean
  | 5 => .array .int
  | 6 => .array .int
  | 7 => .boolean
  | 8 => .int
  | 9 => .int
  | 10 => .int
  | 11 => .long
  | 12 => .long
  | 13 => .array .int
  | 14 => .array .int
  | 15 => .array .boolean
  | 16 => .array .boolean
  | 17 => .array .boolean
  | 18 => .boolean
  | 19 => .array .int
  | 20 => .array .int
  | 21 => .array .int
  | 22 => .array .long
  | 23 => .array .boolean
  | 24 => .int
  | _ => .long
abbrev w_M : List Cond := u_ws R_M F_M 26
theorem n_M : ∀ a, a < 26 → ∀ b, b < 26 → a ≠ b → (F_M a).2.1 ≠ (F_M b).2.1 := by decide +kernel
theorem t_M_ok : ∀ k, k < 26 → parseFieldDescriptor (F_M k).2.2.1 = some (t_M k) := by decide +kernel
theorem i_M : ∀ w ∈ w_M, w ∈ gd_tb := by decide +kernel
abbrev gd_cl : List vw_C := [(R_G, F_G, 7), (R_W, F_W, 13), (R_B, F_B, 9), (R_R, F_R, 7), (R_X, F_X, 4), (R_M, F_M, 26)]
abbrev b_X_init : ByteArray := prog_1_method_1_code
def y_X_init : MethodName := ⟨R_X, "<init>", "()V"⟩
abbrev w_X_init : List Cond := .code y_X_init b_X_init 1 none :: gd_tb
abbrev b_X_point : ByteArray := prog_1_method_2_code
def y_X_point : MethodName := ⟨R_X, "point", "(Z)I"⟩
abbrev w_X_point : List Cond := .code y_X_point b_X_point 2 (some .int) :: gd_tb
abbrev b_X_edge : ByteArray := prog_1_method_3_code
def y_X_edge : MethodName := ⟨R_X, "edge", "(III)I"⟩
abbrev w_X_edge : List Cond := .code y_X_edge b_X_edge 4 (some .int) :: gd_tb
abbrev b_X_fire : ByteArray := prog_1_method_4_code
def y_X_fire : MethodName := ⟨R_X, "fire", "(IZ)Z"⟩
abbrev w_X_fire : List Cond := .code y_X_fire b_X_fire 3 (some .boolean) :: gd_tb
abbrev b_X_grow : ByteArray := prog_1_method_5_code
def y_X_grow : MethodName := ⟨R_X, "grow", "()I"⟩
abbrev w_X_grow : List Cond := .code y_X_grow b_X_grow 1 (some .int) :: gd_tb
abbrev b_X_cluster : ByteArray := prog_1_method_6_code
def y_X_cluster : MethodName := ⟨R_X, "cluster", "(I)I"⟩
abbrev w_X_cluster : List Cond := .code y_X_cluster b_X_cluster 2 (some .int) :: gd_tb
abbrev b_X_size : ByteArray := prog_1_method_7_code
def y_X_size : MethodName := ⟨R_X, "size", "(I)I"⟩
abbrev w_X_size : List Cond := .code y_X_size b_X_size 2 (some .int) :: gd_tb
abbrev b_X_grown : ByteArray := prog_1_method_8_code
def y_X_grown : MethodName := ⟨R_X, "grown", "(I)J"⟩
abbrev w_X_grown : List Cond := .code y_X_grown b_X_grown 2 (some .long) :: gd_tb
abbrev b_X_believe : ByteArray := prog_1_method_9_code
def y_X_believe : MethodName := ⟨R_X, "believe", "(I)I"⟩
abbrev w_X_believe : List Cond := .code y_X_believe b_X_believe 2 (some .int) :: gd_tb
abbrev b_X_sent : ByteArray := prog_1_method_10_code
def y_X_sent : MethodName := ⟨R_X, "sent", "(II)I"⟩
abbrev w_X_sent : List Cond := .code y_X_sent b_X_sent 3 (some .int) :: gd_tb
abbrev b_X_guess : ByteArray := prog_1_method_11_code
def y_X_guess : MethodName := ⟨R_X, "guess", "()J"⟩
abbrev w_X_guess : List Cond := .code y_X_guess b_X_guess 1 (some .long) :: gd_tb
abbrev b_X_answer : ByteArray := prog_1_method_12_code
def y_X_answer : MethodName := ⟨R_X, "answer", "()J"⟩
abbrev w_X_answer : List Cond := .code y_X_answer b_X_answer 1 (some .long) :: gd_tb
abbrev b_X_chosen : ByteArray := prog_1_method_13_code
def y_X_chosen : MethodName := ⟨R_X, "chosen", "()I"⟩
abbrev w_X_chosen : List Cond := .code y_X_chosen b_X_chosen 1 (some .int) :: gd_tb
abbrev b_X_syndrome : ByteArray := prog_1_method_14_code
def y_X_syndrome : MethodName := ⟨R_X, "syndrome", "(J)I"⟩
abbrev w_X_syndrome : List Cond := .code y_X_syndrome b_X_syndrome 3 (some .int) :: gd_tb
abbrev b_X_total : ByteArray := prog_1_method_15_code
def y_X_total : MethodName := ⟨R_X, "total", "(I)I"⟩
abbrev w_X_total : List Cond := .code y_X_total b_X_total 2 (some .int) :: gd_tb
abbrev b_M_init : ByteArray := prog_7_method_1_code
def y_M_init : MethodName := ⟨R_M, "<init>", "()V"⟩
abbrev w_M_init : List Cond := .code y_M_init b_M_init 1 none :: gd_tb
abbrev b_M_thrown : ByteArray := prog_7_method_2_code
def y_M_thrown : MethodName := ⟨R_M, "thrown", "()I"⟩
abbrev w_M_thrown : List Cond := .code y_M_thrown b_M_thrown 1 (some .int) :: gd_tb
abbrev b_M_raise : ByteArray := prog_7_method_3_code
def y_M_raise : MethodName := ⟨R_M, "raise", "(I)I"⟩
abbrev w_M_raise : List Cond := .code y_M_raise b_M_raise 2 (some .int) :: gd_tb
abbrev b_M_isPoint : ByteArray := prog_7_method_4_code
def y_M_isPoint : MethodName := ⟨R_M, "isPoint", "(I)Z"⟩
abbrev w_M_isPoint : List Cond := .code y_M_isPoint b_M_isPoint 2 (some .boolean) :: gd_tb
abbrev b_M_isEdge : ByteArray := prog_7_method_5_code
def y_M_isEdge : MethodName := ⟨R_M, "isEdge", "(I)Z"⟩
abbrev w_M_isEdge : List Cond := .code y_M_isEdge b_M_isEdge 2 (some .boolean) :: gd_tb
abbrev b_M_point : ByteArray := prog_7_method_6_code
def y_M_point : MethodName := ⟨R_M, "point", "(Z)I"⟩
abbrev w_M_point : List Cond := .code y_M_point b_M_point 2 (some .int) :: gd_tb
abbrev b_M_edge : ByteArray := prog_7_method_7_code
def y_M_edge : MethodName := ⟨R_M, "edge", "(III)I"⟩
abbrev w_M_edge : List Cond := .code y_M_edge b_M_edge 4 (some .int) :: gd_tb
abbrev b_M_fire : ByteArray := prog_7_method_8_code
def y_M_fire : MethodName := ⟨R_M, "fire", "(IZ)Z"⟩
abbrev w_M_fire : List Cond := .code y_M_fire b_M_fire 3 (some .boolean) :: gd_tb
abbrev b_M_findOdd : ByteArray := prog_7_method_9_code
def y_M_findOdd : MethodName := ⟨R_M, "findOdd", "()Z"⟩
abbrev w_M_findOdd : List Cond := .code y_M_findOdd b_M_findOdd 7 (some .boolean) :: gd_tb
abbrev b_M_growEdges : ByteArray := prog_7_method_10_code
def y_M_growEdges : MethodName := ⟨R_M, "growEdges", "()Z"⟩
abbrev w_M_growEdges : List Cond := .code y_M_growEdges b_M_growEdges 4 (some .boolean) :: gd_tb
abbrev b_M_merge : ByteArray := prog_7_method_11_code
def y_M_merge : MethodName := ⟨R_M, "merge", "(II)V"⟩
abbrev w_M_merge : List Cond := .code y_M_merge b_M_merge 6 none :: gd_tb
abbrev b_M_growAll : ByteArray := prog_7_method_12_code
def y_M_growAll : MethodName := ⟨R_M, "growAll", "()Z"⟩
abbrev w_M_growAll : List Cond := .code y_M_growAll b_M_growAll 4 (some .boolean) :: gd_tb
abbrev b_M_rootOf : ByteArray := prog_7_method_13_code
def y_M_rootOf : MethodName := ⟨R_M, "rootOf", "(I)I"⟩
abbrev w_M_rootOf : List Cond := .code y_M_rootOf b_M_rootOf 3 (some .int) :: gd_tb
abbrev b_M_isOfFix : ByteArray := prog_7_method_14_code
def y_M_isOfFix : MethodName := ⟨R_M, "isOfFix", "(I)Z"⟩
abbrev w_M_isOfFix : List Cond := .code y_M_isOfFix b_M_isOfFix 6 (some .boolean) :: gd_tb
abbrev b_M_grow : ByteArray := prog_7_method_15_code
def y_M_grow : MethodName := ⟨R_M, "grow", "()I"⟩
abbrev w_M_grow : List Cond := .code y_M_grow b_M_grow 3 (some .int) :: gd_tb
abbrev b_M_cluster : ByteArray := prog_7_method_16_code
def y_M_cluster : MethodName := ⟨R_M, "cluster", "(I)I"⟩
abbrev w_M_cluster : List Cond := .code y_M_cluster b_M_cluster 2 (some .int) :: gd_tb
abbrev b_M_size : ByteArray := prog_7_method_17_code
def y_M_size : MethodName := ⟨R_M, "size", "(I)I"⟩
abbrev w_M_size : List Cond := .code y_M_size b_M_size 2 (some .int) :: gd_tb
abbrev b_M_grown : ByteArray := prog_7_method_18_code
def y_M_grown : MethodName := ⟨R_M, "grown", "(I)J"⟩
abbrev w_M_grown : List Cond := .code y_M_grown b_M_grown 2 (some .long) :: gd_tb
abbrev b_M_within : ByteArray := prog_7_method_19_code
def y_M_within : MethodName := ⟨R_M, "within", "(I)I"⟩
abbrev w_M_within : List Cond := .code y_M_within b_M_within 1 (some .int) :: gd_tb
abbrev b_M_isInner : ByteArray := prog_7_method_20_code
def y_M_isInner : MethodName := ⟨R_M, "isInner", "(I)Z"⟩
abbrev w_M_isInner : List Cond := .code y_M_isInner b_M_isInner 2 (some .boolean) :: gd_tb
abbrev b_M_sendToPoints : ByteArray := prog_7_method_21_code
def y_M_sendToPoints : MethodName := ⟨R_M, "sendToPoints", "()V"⟩
abbrev w_M_sendToPoints : List Cond := .code y_M_sendToPoints b_M_sendToPoints 2 none :: gd_tb
abbrev b_M_answerOf : ByteArray := prog_7_method_22_code
def y_M_answerOf : MethodName := ⟨R_M, "answerOf", "(I)I"⟩
abbrev w_M_answerOf : List Cond := .code y_M_answerOf b_M_answerOf 7 (some .int) :: gd_tb
abbrev b_M_sendToEdges : ByteArray := prog_7_method_23_code
def y_M_sendToEdges : MethodName := ⟨R_M, "sendToEdges", "()V"⟩
abbrev w_M_sendToEdges : List Cond := .code y_M_sendToEdges b_M_sendToEdges 2 none :: gd_tb
abbrev b_M_belief : ByteArray := prog_7_method_24_code
def y_M_belief : MethodName := ⟨R_M, "belief", "(I)I"⟩
abbrev w_M_belief : List Cond := .code y_M_belief b_M_belief 2 (some .int) :: gd_tb
abbrev b_M_guessed : ByteArray := prog_7_method_25_code
def y_M_guessed : MethodName := ⟨R_M, "guessed", "()J"⟩
abbrev w_M_guessed : List Cond := .code y_M_guessed b_M_guessed 4 (some .long) :: gd_tb
abbrev b_M_believe : ByteArray := prog_7_method_26_code
def y_M_believe : MethodName := ⟨R_M, "believe", "(I)I"⟩
abbrev w_M_believe : List Cond := .code y_M_believe b_M_believe 3 (some .int) :: gd_tb
abbrev b_M_sent : ByteArray := prog_7_method_27_code
def y_M_sent : MethodName := ⟨R_M, "sent", "(II)I"⟩
abbrev w_M_sent : List Cond := .code y_M_sent b_M_sent 3 (some .int) :: gd_tb
abbrev b_M_guess : ByteArray := prog_7_method_28_code
def y_M_guess : MethodName := ⟨R_M, "guess", "()J"⟩
abbrev w_M_guess : List Cond := .code y_M_guess b_M_guess 1 (some .long) :: gd_tb
abbrev b_M_highest : ByteArray := prog_7_method_29_code
def y_M_highest : MethodName := ⟨R_M, "highest", "(I)I"⟩
abbrev w_M_highest : List Cond := .code y_M_highest b_M_highest 2 (some .int) :: gd_tb
abbrev b_M_left : ByteArray := prog_7_method_30_code
def y_M_left : MethodName := ⟨R_M, "left", "(I)I"⟩
abbrev w_M_left : List Cond := .code y_M_left b_M_left 4 (some .int) :: gd_tb
abbrev b_M_orderOf : ByteArray := prog_7_method_31_code
def y_M_orderOf : MethodName := ⟨R_M, "orderOf", "(I)I"⟩
abbrev w_M_orderOf : List Cond := .code y_M_orderOf b_M_orderOf 2 (some .int) :: gd_tb
abbrev b_M_nextEdge : ByteArray := prog_7_method_32_code
def y_M_nextEdge : MethodName := ⟨R_M, "nextEdge", "()I"⟩
abbrev w_M_nextEdge : List Cond := .code y_M_nextEdge b_M_nextEdge 3 (some .int) :: gd_tb
abbrev b_M_choose : ByteArray := prog_7_method_33_code
def y_M_choose : MethodName := ⟨R_M, "choose", "()V"⟩
abbrev w_M_choose : List Cond := .code y_M_choose b_M_choose 4 none :: gd_tb
abbrev b_M_answer : ByteArray := prog_7_method_34_code
def y_M_answer : MethodName := ⟨R_M, "answer", "()J"⟩
abbrev w_M_answer : List Cond := .code y_M_answer b_M_answer 1 (some .long) :: gd_tb
abbrev b_M_chosen : ByteArray := prog_7_method_35_code
def y_M_chosen : MethodName := ⟨R_M, "chosen", "()I"⟩
abbrev w_M_chosen : List Cond := .code y_M_chosen b_M_chosen 1 (some .int) :: gd_tb
abbrev b_M_syndromeOf : ByteArray := prog_7_method_36_code
def y_M_syndromeOf : MethodName := ⟨R_M, "syndromeOf", "(J)I"⟩
abbrev w_M_syndromeOf : List Cond := .code y_M_syndromeOf b_M_syndromeOf 5 (some .int) :: gd_tb
abbrev b_M_syndrome : ByteArray := prog_7_method_37_code
def y_M_syndrome : MethodName := ⟨R_M, "syndrome", "(J)I"⟩
abbrev w_M_syndrome : List Cond := .code y_M_syndrome b_M_syndrome 3 (some .int) :: gd_tb
abbrev b_M_total : ByteArray := prog_7_method_38_code
def y_M_total : MethodName := ⟨R_M, "total", "(I)I"⟩
abbrev w_M_total : List Cond := .code y_M_total b_M_total 4 (some .int) :: gd_tb
abbrev b_B_init : ByteArray := prog_2_method_1_code
def y_B_init : MethodName := ⟨R_B, "<init>", "()V"⟩
abbrev w_B_init : List Cond := .code y_B_init b_B_init 1 none :: gd_tb
abbrev b_B_forget : ByteArray := prog_2_method_2_code
def y_B_forget : MethodName := ⟨R_B, "forget", "()V"⟩
abbrev w_B_forget : List Cond := .code y_B_forget b_B_forget 1 none :: gd_tb
abbrev b_B_settle : ByteArray := prog_2_method_3_code
def y_B_settle : MethodName := ⟨R_B, "settle", "(LGrowDecoder$Graph;I)I"⟩
abbrev w_B_settle : List Cond := .code y_B_settle b_B_settle 4 (some .int) :: gd_tb
abbrev b_B_beliefOf : ByteArray := prog_2_method_4_code
def y_B_beliefOf : MethodName := ⟨R_B, "beliefOf", "(LGrowDecoder$Graph;I)I"⟩
abbrev w_B_beliefOf : List Cond := .code y_B_beliefOf b_B_beliefOf 3 (some .int) :: gd_tb
abbrev b_B_sendToPoints : ByteArray := prog_2_method_5_code
def y_B_sendToPoints : MethodName := ⟨R_B, "sendToPoints", "(LGrowDecoder$Graph;)V"⟩
abbrev w_B_sendToPoints : List Cond := .code y_B_sendToPoints b_B_sendToPoints 3 none :: gd_tb
abbrev b_B_bounded : ByteArray := prog_2_method_6_code
def y_B_bounded : MethodName := ⟨R_B, "bounded", "(I)I"⟩
abbrev w_B_bounded : List Cond := .code y_B_bounded b_B_bounded 1 (some .int) :: gd_tb
abbrev b_B_gather : ByteArray := prog_2_method_7_code
def y_B_gather : MethodName := ⟨R_B, "gather", "(LGrowDecoder$Graph;)V"⟩
abbrev w_B_gather : List Cond := .code y_B_gather b_B_gather 3 none :: gd_tb
abbrev b_B_gatherAt : ByteArray := prog_2_method_8_code
def y_B_gatherAt : MethodName := ⟨R_B, "gatherAt", "(II)V"⟩
abbrev w_B_gatherAt : List Cond := .code y_B_gatherAt b_B_gatherAt 4 none :: gd_tb
abbrev b_B_sendToEdges : ByteArray := prog_2_method_9_code
def y_B_sendToEdges : MethodName := ⟨R_B, "sendToEdges", "(LGrowDecoder$Graph;)V"⟩
abbrev w_B_sendToEdges : List Cond := .code y_B_sendToEdges b_B_sendToEdges 3 none :: gd_tb
abbrev b_B_sentBack : ByteArray := prog_2_method_10_code
def y_B_sentBack : MethodName := ⟨R_B, "sentBack", "(LGrowDecoder$Graph;II)I"⟩
abbrev w_B_sentBack : List Cond := .code y_B_sentBack b_B_sentBack 6 (some .int) :: gd_tb
abbrev b_B_negativeEdges : ByteArray := prog_2_method_11_code
def y_B_negativeEdges : MethodName := ⟨R_B, "negativeEdges", "(LGrowDecoder$Graph;)J"⟩
abbrev w_B_negativeEdges : List Cond := .code y_B_negativeEdges b_B_negativeEdges 5 (some .long) :: gd_tb
abbrev b_G_init : ByteArray := prog_3_method_1_code
def y_G_init : MethodName := ⟨R_G, "<init>", "()V"⟩
abbrev w_G_init : List Cond := .code y_G_init b_G_init 1 none :: gd_tb
abbrev b_G_hasPoint : ByteArray := prog_3_method_2_code
def y_G_hasPoint : MethodName := ⟨R_G, "hasPoint", "(I)Z"⟩
abbrev w_G_hasPoint : List Cond := .code y_G_hasPoint b_G_hasPoint 2 (some .boolean) :: gd_tb
abbrev b_G_hasEdge : ByteArray := prog_3_method_3_code
def y_G_hasEdge : MethodName := ⟨R_G, "hasEdge", "(I)Z"⟩
abbrev w_G_hasEdge : List Cond := .code y_G_hasEdge b_G_hasEdge 2 (some .boolean) :: gd_tb
abbrev b_G_isBoundary : ByteArray := prog_3_method_4_code
def y_G_isBoundary : MethodName := ⟨R_G, "isBoundary", "(I)Z"⟩
abbrev w_G_isBoundary : List Cond := .code y_G_isBoundary b_G_isBoundary 2 (some .boolean) :: gd_tb
abbrev b_G_isFired : ByteArray := prog_3_method_5_code
def y_G_isFired : MethodName := ⟨R_G, "isFired", "(I)Z"⟩
abbrev w_G_isFired : List Cond := .code y_G_isFired b_G_isFired 2 (some .boolean) :: gd_tb
abbrev b_G_canJoin : ByteArray := prog_3_method_6_code
def y_G_canJoin : MethodName := ⟨R_G, "canJoin", "(II)Z"⟩
abbrev w_G_canJoin : List Cond := .code y_G_canJoin b_G_canJoin 3 (some .boolean) :: gd_tb
abbrev b_G_addPoint : ByteArray := prog_3_method_7_code
def y_G_addPoint : MethodName := ⟨R_G, "addPoint", "(Z)I"⟩
abbrev w_G_addPoint : List Cond := .code y_G_addPoint b_G_addPoint 3 (some .int) :: gd_tb
abbrev b_G_addEdge : ByteArray := prog_3_method_8_code
def y_G_addEdge : MethodName := ⟨R_G, "addEdge", "(III)I"⟩
abbrev w_G_addEdge : List Cond := .code y_G_addEdge b_G_addEdge 5 (some .int) :: gd_tb
abbrev b_G_innerEnds : ByteArray := prog_3_method_9_code
def y_G_innerEnds : MethodName := ⟨R_G, "innerEnds", "(I)I"⟩
abbrev w_G_innerEnds : List Cond := .code y_G_innerEnds b_G_innerEnds 2 (some .int) :: gd_tb
abbrev b_G_oddEnds : ByteArray := prog_3_method_10_code
def y_G_oddEnds : MethodName := ⟨R_G, "oddEnds", "(J)I"⟩
abbrev w_G_oddEnds : List Cond := .code y_G_oddEnds b_G_oddEnds 5 (some .int) :: gd_tb
abbrev b_W_init : ByteArray := prog_4_method_1_code
def y_W_init : MethodName := ⟨R_W, "<init>", "()V"⟩
abbrev w_W_init : List Cond := .code y_W_init b_W_init 1 none :: gd_tb
abbrev b_W_growOver : ByteArray := prog_4_method_2_code
def y_W_growOver : MethodName := ⟨R_W, "growOver", "(LGrowDecoder$Graph;)Z"⟩
abbrev w_W_growOver : List Cond := .code y_W_growOver b_W_growOver 5 (some .boolean) :: gd_tb
abbrev b_W_begin : ByteArray := prog_4_method_3_code
def y_W_begin : MethodName := ⟨R_W, "begin", "(LGrowDecoder$Graph;)V"⟩
abbrev w_W_begin : List Cond := .code y_W_begin b_W_begin 3 none :: gd_tb
abbrev b_W_pointsOfOddClusters : ByteArray := prog_4_method_4_code
def y_W_pointsOfOddClusters : MethodName := ⟨R_W, "pointsOfOddClusters", "(LGrowDecoder$Graph;)I"⟩
abbrev w_W_pointsOfOddClusters : List Cond := .code y_W_pointsOfOddClusters b_W_pointsOfOddClusters 4 (some .int) :: gd_tb
abbrev b_W_isOdd : ByteArray := prog_4_method_5_code
def y_W_isOdd : MethodName := ⟨R_W, "isOdd", "(LGrowDecoder$Graph;I)Z"⟩
abbrev w_W_isOdd : List Cond := .code y_W_isOdd b_W_isOdd 2 (some .boolean) :: gd_tb
abbrev b_W_feed : ByteArray := prog_4_method_6_code
def y_W_feed : MethodName := ⟨R_W, "feed", "(LGrowDecoder$Graph;I)J"⟩
abbrev w_W_feed : List Cond := .code y_W_feed b_W_feed 7 (some .long) :: gd_tb
abbrev b_W_joinFull : ByteArray := prog_4_method_7_code
def y_W_joinFull : MethodName := ⟨R_W, "joinFull", "(LGrowDecoder$Graph;J)V"⟩
abbrev w_W_joinFull : List Cond := .code y_W_joinFull b_W_joinFull 6 none :: gd_tb
abbrev b_W_join : ByteArray := prog_4_method_8_code
def y_W_join : MethodName := ⟨R_W, "join", "(II)V"⟩
abbrev w_W_join : List Cond := .code y_W_join b_W_join 6 none :: gd_tb
abbrev b_W_peel : ByteArray := prog_4_method_9_code
def y_W_peel : MethodName := ⟨R_W, "peel", "(LGrowDecoder$Graph;)V"⟩
abbrev w_W_peel : List Cond := .code y_W_peel b_W_peel 6 none :: gd_tb
abbrev b_W_walkFromRoots : ByteArray := prog_4_method_10_code
def y_W_walkFromRoots : MethodName := ⟨R_W, "walkFromRoots", "(LGrowDecoder$Graph;)V"⟩
abbrev w_W_walkFromRoots : List Cond := .code y_W_walkFromRoots b_W_walkFromRoots 3 none :: gd_tb
abbrev b_W_rootOf : ByteArray := prog_4_method_11_code
def y_W_rootOf : MethodName := ⟨R_W, "rootOf", "(LGrowDecoder$Graph;I)I"⟩
abbrev w_W_rootOf : List Cond := .code y_W_rootOf b_W_rootOf 4 (some .int) :: gd_tb
abbrev b_W_walkOnFrom : ByteArray := prog_4_method_12_code
def y_W_walkOnFrom : MethodName := ⟨R_W, "walkOnFrom", "(LGrowDecoder$Graph;I)V"⟩
abbrev w_W_walkOnFrom : List Cond := .code y_W_walkOnFrom b_W_walkOnFrom 5 none :: gd_tb
abbrev b_W_reach : ByteArray := prog_4_method_13_code
def y_W_reach : MethodName := ⟨R_W, "reach", "(II)V"⟩
abbrev w_W_reach : List Cond := .code y_W_reach b_W_reach 3 none :: gd_tb
abbrev b_W_otherEnd : ByteArray := prog_4_method_14_code
def y_W_otherEnd : MethodName := ⟨R_W, "otherEnd", "(LGrowDecoder$Graph;II)I"⟩
abbrev w_W_otherEnd : List Cond := .code y_W_otherEnd b_W_otherEnd 3 (some .int) :: gd_tb
abbrev b_R_init : ByteArray := prog_5_method_1_code
def y_R_init : MethodName := ⟨R_R, "<init>", "()V"⟩
abbrev w_R_init : List Cond := .code y_R_init b_R_init 1 none :: gd_tb
abbrev b_R_choose : ByteArray := prog_5_method_2_code
def y_R_choose : MethodName := ⟨R_R, "choose", "(LGrowDecoder$Graph;LGrowDecoder$Beliefs;)V"⟩
abbrev w_R_choose : List Cond := .code y_R_choose b_R_choose 6 none :: gd_tb
abbrev b_R_solve : ByteArray := prog_5_method_3_code
def y_R_solve : MethodName := ⟨R_R, "solve", "(I)J"⟩
abbrev w_R_solve : List Cond := .code y_R_solve b_R_solve 2 (some .long) :: gd_tb
abbrev b_R_putInOrder : ByteArray := prog_5_method_4_code
def y_R_putInOrder : MethodName := ⟨R_R, "putInOrder", "(LGrowDecoder$Graph;LGrowDecoder$Beliefs;)V"⟩
abbrev w_R_putInOrder : List Cond := .code y_R_putInOrder b_R_putInOrder 4 none :: gd_tb
abbrev b_R_insert : ByteArray := prog_5_method_5_code
def y_R_insert : MethodName := ⟨R_R, "insert", "(I)V"⟩
abbrev w_R_insert : List Cond := .code y_R_insert b_R_insert 3 none :: gd_tb
abbrev b_R_reduce : ByteArray := prog_5_method_6_code
def y_R_reduce : MethodName := ⟨R_R, "reduce", "(IJ)V"⟩
abbrev w_R_reduce : List Cond := .code y_R_reduce b_R_reduce 5 none :: gd_tb
abbrev b_L_grow : ByteArray := method_3_code
def y_L_grow : MethodName := ⟨R_L, "grow", "(LGrowDecoder;[J)I"⟩
abbrev b_L_sent : ByteArray := method_4_code
def y_L_sent : MethodName := ⟨R_L, "sent", "(LGrowDecoder;II[J)I"⟩
abbrev b_L_law : ByteArray := code
def y_L_law : MethodName := ⟨R_L, "law", "([I)Z"⟩
abbrev b_JI_bitCount : ByteArray := prog_12_method_49_code
def y_JI_bitCount : MethodName := ⟨R_JI, "bitCount", "(I)I"⟩
abbrev w_JI_bitCount : List Cond := .code y_JI_bitCount b_JI_bitCount 1 (some .int) :: gd_tb
abbrev b_JI_numberOfTrailingZeros : ByteArray := prog_12_method_48_code
def y_JI_numberOfTrailingZeros : MethodName := ⟨R_JI, "numberOfTrailingZeros", "(I)I"⟩
abbrev w_JI_numberOfTrailingZeros : List Cond := .code y_JI_numberOfTrailingZeros b_JI_numberOfTrailingZeros 2 (some .int) :: gd_tb
abbrev b_JA_fill : ByteArray := prog_17_method_103_code
def y_JA_fill : MethodName := ⟨R_JA, "fill", "([II)V"⟩
abbrev w_JA_fill : List Cond := .code y_JA_fill b_JA_fill 4 none :: gd_tb
theorem wd_0 : Cond.selects R_B y_B_sendToPoints y_B_sendToPoints ∈ gd_tb := gd_in (List.mem_of_getElem? (i := 0) (by decide +kernel)) (by decide +kernel)
theorem wd_1 : Cond.selects R_B y_B_gather y_B_gather ∈ gd_tb := gd_in (List.mem_of_getElem? (i := 1) (by decide +kernel)) (by decide +kernel)
theorem wd_2 : Cond.selects R_B y_B_gatherAt y_B_gatherAt ∈ gd_tb := gd_in (List.mem_of_getElem? (i := 2) (by decide +kernel)) (by decide +kernel)
theorem wd_3 : Cond.selects R_B y_B_sendToEdges y_B_sendToEdges ∈ gd_tb := gd_in (List.mem_of_getElem? (i := 3) (by decide +kernel)) (by decide +kernel)
theorem wd_4 : Cond.selects R_B y_B_sentBack y_B_sentBack ∈ gd_tb := gd_in (List.mem_of_getElem? (i := 4) (by decide +kernel)) (by decide +kernel)
theorem wd_5 : Cond.selects R_B y_B_negativeEdges y_B_negativeEdges ∈ gd_tb := gd_in (List.mem_of_getElem? (i := 5) (by decide +kernel)) (by decide +kernel)
theorem wd_6 : Cond.selects R_R y_R_putInOrder y_R_putInOrder ∈ gd_tb := gd_in (List.mem_of_getElem? (i := 6) (by decide +kernel)) (by decide +kernel)
theorem wd_7 : Cond.selects R_R y_R_insert y_R_insert ∈ gd_tb := gd_in (List.mem_of_getElem? (i := 7) (by decide +kernel)) (by decide +kernel)
theorem wd_8 : Cond.selects R_R y_R_reduce y_R_reduce ∈ gd_tb := gd_in (List.mem_of_getElem? (i := 8) (by decide +kernel)) (by decide +kernel)
theorem wd_9 : Cond.selects R_W y_W_begin y_W_begin ∈ gd_tb := gd_in (List.mem_of_getElem? (i := 9) (by decide +kernel)) (by decide +kernel)
theorem wd_10 : Cond.selects R_W y_W_pointsOfOddClusters y_W_pointsOfOddClusters ∈ gd_tb := gd_in (List.mem_of_getElem? (i := 10) (by decide +kernel)) (by decide +kernel)
theorem wd_11 : Cond.selects R_W y_W_feed y_W_feed ∈ gd_tb := gd_in (List.mem_of_getElem? (i := 11) (by decide +kernel)) (by decide +kernel)
theorem wd_12 : Cond.selects R_W y_W_joinFull y_W_joinFull ∈ gd_tb := gd_in (List.mem_of_getElem? (i := 12) (by decide +kernel)) (by decide +kernel)
theorem wd_13 : Cond.selects R_W y_W_join y_W_join ∈ gd_tb := gd_in (List.mem_of_getElem? (i := 13) (by decide +kernel)) (by decide +kernel)
theorem wd_14 : Cond.selects R_W y_W_peel y_W_peel ∈ gd_tb := gd_in (List.mem_of_getElem? (i := 14) (by decide +kernel)) (by decide +kernel)
theorem wd_15 : Cond.selects R_W y_W_walkFromRoots y_W_walkFromRoots ∈ gd_tb := gd_in (List.mem_of_getElem? (i := 15) (by decide +kernel)) (by decide +kernel)
theorem wd_16 : Cond.selects R_W y_W_rootOf y_W_rootOf ∈ gd_tb := gd_in (List.mem_of_getElem? (i := 16) (by decide +kernel)) (by decide +kernel)
theorem wd_17 : Cond.selects R_W y_W_reach y_W_reach ∈ gd_tb := gd_in (List.mem_of_getElem? (i := 17) (by decide +kernel)) (by decide +kernel)
theorem wd_18 : Cond.selects R_W y_W_walkOnFrom y_W_walkOnFrom ∈ gd_tb := gd_in (List.mem_of_getElem? (i := 18) (by decide +kernel)) (by decide +kernel)
theorem wd_19 : Cond.selects "java/lang/Throwable" ⟨"java/lang/Throwable", "fillInStackTrace", "(I)Ljava/lang/Throwable;"⟩ ⟨"java/lang/Throwable", "fillInStackTrace", "(I)Ljava/lang/Throwable;"⟩ ∈ gd_tb := gd_in (List.mem_of_getElem? (i := 19) (by decide +kernel)) (by decide +kernel)
theorem wd_20 : Cond.selects R_M y_M_isPoint y_M_isPoint ∈ gd_tb := gd_in (List.mem_of_getElem? (i := 20) (by decide +kernel)) (by decide +kernel)
theorem wd_21 : Cond.selects R_M y_M_growAll y_M_growAll ∈ gd_tb := gd_in (List.mem_of_getElem? (i := 21) (by decide +kernel)) (by decide +kernel)
theorem wd_22 : Cond.selects R_M y_M_findOdd y_M_findOdd ∈ gd_tb := gd_in (List.mem_of_getElem? (i := 22) (by decide +kernel)) (by decide +kernel)
theorem wd_23 : Cond.selects R_M y_M_growEdges y_M_growEdges ∈ gd_tb := gd_in (List.mem_of_getElem? (i := 23) (by decide +kernel)) (by decide +kernel)
theorem wd_24 : Cond.selects R_M y_M_merge y_M_merge ∈ gd_tb := gd_in (List.mem_of_getElem? (i := 24) (by decide +kernel)) (by decide +kernel)
theorem wd_25 : Cond.selects R_M y_M_raise y_M_raise ∈ gd_tb := gd_in (List.mem_of_getElem? (i := 25) (by decide +kernel)) (by decide +kernel)
theorem wd_26 : Cond.selects R_M y_M_isOfFix y_M_isOfFix ∈ gd_tb := gd_in (List.mem_of_getElem? (i := 26) (by decide +kernel)) (by decide +kernel)
theorem wd_27 : Cond.selects R_M y_M_rootOf y_M_rootOf ∈ gd_tb := gd_in (List.mem_of_getElem? (i := 27) (by decide +kernel)) (by decide +kernel)
theorem wd_28 : Cond.selects R_M y_M_sendToPoints y_M_sendToPoints ∈ gd_tb := gd_in (List.mem_of_getElem? (i := 28) (by decide +kernel)) (by decide +kernel)
theorem wd_29 : Cond.selects R_M y_M_isInner y_M_isInner ∈ gd_tb := gd_in (List.mem_of_getElem? (i := 29) (by decide +kernel)) (by decide +kernel)
theorem wd_30 : Cond.selects R_M y_M_sendToEdges y_M_sendToEdges ∈ gd_tb := gd_in (List.mem_of_getElem? (i := 30) (by decide +kernel)) (by decide +kernel)
theorem wd_31 : Cond.selects R_M y_M_answerOf y_M_answerOf ∈ gd_tb := gd_in (List.mem_of_getElem? (i := 31) (by decide +kernel)) (by decide +kernel)
theorem wd_32 : Cond.selects R_M y_M_guessed y_M_guessed ∈ gd_tb := gd_in (List.mem_of_getElem? (i := 32) (by decide +kernel)) (by decide +kernel)
theorem wd_33 : Cond.selects R_M y_M_belief y_M_belief ∈ gd_tb := gd_in (List.mem_of_getElem? (i := 33) (by decide +kernel)) (by decide +kernel)
theorem wd_34 : Cond.selects R_M y_M_syndromeOf y_M_syndromeOf ∈ gd_tb := gd_in (List.mem_of_getElem? (i := 34) (by decide +kernel)) (by decide +kernel)
theorem wd_35 : Cond.selects R_M y_M_isEdge y_M_isEdge ∈ gd_tb := gd_in (List.mem_of_getElem? (i := 35) (by decide +kernel)) (by decide +kernel)
theorem wd_36 : Cond.selects R_M y_M_choose y_M_choose ∈ gd_tb := gd_in (List.mem_of_getElem? (i := 36) (by decide +kernel)) (by decide +kernel)
theorem wd_37 : Cond.selects R_M y_M_nextEdge y_M_nextEdge ∈ gd_tb := gd_in (List.mem_of_getElem? (i := 37) (by decide +kernel)) (by decide +kernel)
theorem wd_38 : Cond.selects R_M y_M_orderOf y_M_orderOf ∈ gd_tb := gd_in (List.mem_of_getElem? (i := 38) (by decide +kernel)) (by decide +kernel)
theorem wd_39 : Cond.selects R_M y_M_left y_M_left ∈ gd_tb := gd_in (List.mem_of_getElem? (i := 39) (by decide +kernel)) (by decide +kernel)
theorem wd_40 : Cond.initialized R_L ∈ gd_tb := gd_in (List.mem_of_getElem? (i := 40) (by decide +kernel)) (by decide +kernel)
theorem wd_41 : Cond.initialized R_X ∈ gd_tb := gd_in (List.mem_of_getElem? (i := 41) (by decide +kernel)) (by decide +kernel)
theorem wd_42 : Cond.initialized R_G ∈ gd_tb := gd_in (List.mem_of_getElem? (i := 42) (by decide +kernel)) (by decide +kernel)
theorem wd_43 : Cond.initialized R_W ∈ gd_tb := gd_in (List.mem_of_getElem? (i := 43) (by decide +kernel)) (by decide +kernel)
theorem wd_44 : Cond.initialized R_B ∈ gd_tb := gd_in (List.mem_of_getElem? (i := 44) (by decide +kernel)) (by decide +kernel)
theorem wd_45 : Cond.initialized R_R ∈ gd_tb := gd_in (List.mem_of_getElem? (i := 45) (by decide +kernel)) (by decide +kernel)
theorem wd_46 : Cond.initialized R_M ∈ gd_tb := gd_in (List.mem_of_getElem? (i := 46) (by decide +kernel)) (by decide +kernel)
theorem wd_47 : Cond.initialized R_JA ∈ gd_tb := gd_in (List.mem_of_getElem? (i := 47) (by decide +kernel)) (by decide +kernel)
theorem wd_48 : Cond.initialized R_JI ∈ gd_tb := gd_in (List.mem_of_getElem? (i := 48) (by decide +kernel)) (by decide +kernel)
theorem wd_49 : Cond.initialized "java/lang/Math" ∈ gd_tb := gd_in (List.mem_of_getElem? (i := 49) (by decide +kernel)) (by decide +kernel)
theorem wd_50 : Cond.initialized "java/lang/Throwable" ∈ gd_tb := gd_in (List.mem_of_getElem? (i := 50) (by decide +kernel)) (by decide +kernel)
theorem wd_51 : Cond.initialized "java/lang/Exception" ∈ gd_tb := gd_in (List.mem_of_getElem? (i := 51) (by decide +kernel)) (by decide +kernel)
theorem wd_52 : Cond.initialized "java/lang/RuntimeException" ∈ gd_tb := gd_in (List.mem_of_getElem? (i := 52) (by decide +kernel)) (by decide +kernel)
theorem wd_53 : Cond.initialized "java/lang/ArithmeticException" ∈ gd_tb := gd_in (List.mem_of_getElem? (i := 53) (by decide +kernel)) (by decide +kernel)
theorem wd_54 : Cond.initialized "java/lang/IllegalStateException" ∈ gd_tb := gd_in (List.mem_of_getElem? (i := 54) (by decide +kernel)) (by decide +kernel)
theorem wd_55 : Cond.initialized "java/lang/IllegalArgumentException" ∈ gd_tb := gd_in (List.mem_of_getElem? (i := 55) (by decide +kernel)) (by decide +kernel)
theorem wd_56 : Cond.classLink R_L 8 R_X ∈ gd_tb := gd_in (List.mem_of_getElem? (i := 56) (by decide +kernel)) (by decide +kernel)
theorem wd_57 : Cond.instantiable R_X 4 ∈ gd_tb := gd_in (List.mem_of_getElem? (i := 57) (by decide +kernel)) (by decide +kernel)
theorem wd_58 : Cond.methodLink R_L 23 y_X_init ∈ gd_tb := gd_in (List.mem_of_getElem? (i := 58) (by decide +kernel)) (by decide +kernel)
theorem wd_59 : Cond.instanceMethod y_X_init ∈ gd_tb := gd_in (List.mem_of_getElem? (i := 59) (by decide +kernel)) (by decide +kernel)
theorem wd_60 : Cond.code y_X_init b_X_init 1 none ∈ gd_tb := gd_in (List.mem_of_getElem? (i := 60) (by decide +kernel)) (by decide +kernel)
theorem wd_61 : Cond.methodLink R_X 3 ⟨"java/lang/Object", "<init>", "()V"⟩ ∈ gd_tb := gd_in (List.mem_of_getElem? (i := 61) (by decide +kernel)) (by decide +kernel)
theorem wd_62 : Cond.instanceMethod ⟨"java/lang/Object", "<init>", "()V"⟩ ∈ gd_tb := gd_in (List.mem_of_getElem? (i := 62) (by decide +kernel)) (by decide +kernel)
theorem wd_63 : Cond.code ⟨"java/lang/Object", "<init>", "()V"⟩ object_method_1_code 1 none ∈ gd_tb := gd_in (List.mem_of_getElem? (i := 63) (by decide +kernel)) (by decide +kernel)
theorem wd_64 : Cond.classLink R_X 9 R_G ∈ gd_tb := gd_in (List.mem_of_getElem? (i := 64) (by decide +kernel)) (by decide +kernel)
theorem wd_65 : Cond.instantiable R_G 7 ∈ gd_tb := gd_in (List.mem_of_getElem? (i := 65) (by decide +kernel)) (by decide +kernel)
theorem wd_67 : Cond.instanceMethod y_G_init ∈ gd_tb := gd_in (List.mem_of_getElem? (i := 67) (by decide +kernel)) (by decide +kernel)
theorem wd_68 : Cond.code y_G_init b_G_init 1 none ∈ gd_tb := gd_in (List.mem_of_getElem? (i := 68) (by decide +kernel)) (by decide +kernel)
theorem wd_69 : Cond.methodLink R_G 3 ⟨"java/lang/Object", "<init>", "()V"⟩ ∈ gd_tb := gd_in (List.mem_of_getElem? (i := 69) (by decide +kernel)) (by decide +kernel)
theorem wd_70 : Cond.fieldLink R_G 9 R_G "first" "[I" ∈ gd_tb := gd_in (List.mem_of_getElem? (i := 70) (by decide +kernel)) (by decide +kernel)
theorem wd_71 : Cond.fieldLink R_W 92 R_G "first" "[I" ∈ gd_tb := gd_in (List.mem_of_getElem? (i := 71) (by decide +kernel)) (by decide +kernel)
theorem wd_72 : Cond.fieldLink R_B 90 R_G "first" "[I" ∈ gd_tb := gd_in (List.mem_of_getElem? (i := 72) (by decide +kernel)) (by decide +kernel)
theorem wd_73 : Cond.fieldLink R_G 15 R_G "second" "[I" ∈ gd_tb := gd_in (List.mem_of_getElem? (i := 73) (by decide +kernel)) (by decide +kernel)
theorem wd_74 : Cond.fieldLink R_W 95 R_G "second" "[I" ∈ gd_tb := gd_in (List.mem_of_getElem? (i := 74) (by decide +kernel)) (by decide +kernel)
theorem wd_75 : Cond.fieldLink R_B 97 R_G "second" "[I" ∈ gd_tb := gd_in (List.mem_of_getElem? (i := 75) (by decide +kernel)) (by decide +kernel)
theorem wd_76 : Cond.fieldLink R_G 18 R_G "lengths" "[I" ∈ gd_tb := gd_in (List.mem_of_getElem? (i := 76) (by decide +kernel)) (by decide +kernel)
theorem wd_77 : Cond.fieldLink R_B 68 R_G "lengths" "[I" ∈ gd_tb := gd_in (List.mem_of_getElem? (i := 77) (by decide +kernel)) (by decide +kernel)
theorem wd_78 : Cond.fieldLink R_R 76 R_G "lengths" "[I" ∈ gd_tb := gd_in (List.mem_of_getElem? (i := 78) (by decide +kernel)) (by decide +kernel)
theorem wd_79 : Cond.fieldLink R_W 98 R_G "lengths" "[I" ∈ gd_tb := gd_in (List.mem_of_getElem? (i := 79) (by decide +kernel)) (by decide +kernel)
theorem wd_80 : Cond.fieldLink R_X 37 R_G "points" "I" ∈ gd_tb := gd_in (List.mem_of_getElem? (i := 80) (by decide +kernel)) (by decide +kernel)
theorem wd_81 : Cond.fieldLink R_G 21 R_G "points" "I" ∈ gd_tb := gd_in (List.mem_of_getElem? (i := 81) (by decide +kernel)) (by decide +kernel)
theorem wd_82 : Cond.fieldLink R_W 50 R_G "points" "I" ∈ gd_tb := gd_in (List.mem_of_getElem? (i := 82) (by decide +kernel)) (by decide +kernel)
theorem wd_83 : Cond.fieldLink R_R 39 R_G "edges" "I" ∈ gd_tb := gd_in (List.mem_of_getElem? (i := 83) (by decide +kernel)) (by decide +kernel)
theorem wd_84 : Cond.fieldLink R_G 25 R_G "edges" "I" ∈ gd_tb := gd_in (List.mem_of_getElem? (i := 84) (by decide +kernel)) (by decide +kernel)
theorem wd_85 : Cond.fieldLink R_W 56 R_G "edges" "I" ∈ gd_tb := gd_in (List.mem_of_getElem? (i := 85) (by decide +kernel)) (by decide +kernel)
theorem wd_86 : Cond.fieldLink R_X 52 R_G "edges" "I" ∈ gd_tb := gd_in (List.mem_of_getElem? (i := 86) (by decide +kernel)) (by decide +kernel)
theorem wd_87 : Cond.fieldLink R_B 71 R_G "edges" "I" ∈ gd_tb := gd_in (List.mem_of_getElem? (i := 87) (by decide +kernel)) (by decide +kernel)
theorem wd_88 : Cond.fieldLink R_G 28 R_G "boundaries" "I" ∈ gd_tb := gd_in (List.mem_of_getElem? (i := 88) (by decide +kernel)) (by decide +kernel)
theorem wd_89 : Cond.fieldLink R_W 80 R_G "boundaries" "I" ∈ gd_tb := gd_in (List.mem_of_getElem? (i := 89) (by decide +kernel)) (by decide +kernel)
theorem wd_90 : Cond.fieldLink R_B 64 R_G "fired" "I" ∈ gd_tb := gd_in (List.mem_of_getElem? (i := 90) (by decide +kernel)) (by decide +kernel)
theorem wd_91 : Cond.fieldLink R_X 69 R_G "fired" "I" ∈ gd_tb := gd_in (List.mem_of_getElem? (i := 91) (by decide +kernel)) (by decide +kernel)
theorem wd_92 : Cond.fieldLink R_G 31 R_G "fired" "I" ∈ gd_tb := gd_in (List.mem_of_getElem? (i := 92) (by decide +kernel)) (by decide +kernel)
theorem wd_93 : Cond.fieldLink R_W 83 R_G "fired" "I" ∈ gd_tb := gd_in (List.mem_of_getElem? (i := 93) (by decide +kernel)) (by decide +kernel)
theorem wd_109 : Cond.arrayClass .int ∈ gd_tb := gd_in (List.mem_of_getElem? (i := 109) (by decide +kernel)) (by decide +kernel)
theorem wd_110 : Cond.classLink R_X 16 R_W ∈ gd_tb := gd_in (List.mem_of_getElem? (i := 110) (by decide +kernel)) (by decide +kernel)
theorem wd_111 : Cond.instantiable R_W 13 ∈ gd_tb := gd_in (List.mem_of_getElem? (i := 111) (by decide +kernel)) (by decide +kernel)
theorem wd_113 : Cond.instanceMethod y_W_init ∈ gd_tb := gd_in (List.mem_of_getElem? (i := 113) (by decide +kernel)) (by decide +kernel)
theorem wd_114 : Cond.code y_W_init b_W_init 1 none ∈ gd_tb := gd_in (List.mem_of_getElem? (i := 114) (by decide +kernel)) (by decide +kernel)
theorem wd_115 : Cond.methodLink R_W 3 ⟨"java/lang/Object", "<init>", "()V"⟩ ∈ gd_tb := gd_in (List.mem_of_getElem? (i := 115) (by decide +kernel)) (by decide +kernel)
theorem wd_116 : Cond.fieldLink R_W 9 R_W "least" "[I" ∈ gd_tb := gd_in (List.mem_of_getElem? (i := 116) (by decide +kernel)) (by decide +kernel)
theorem wd_117 : Cond.fieldLink R_X 87 R_W "least" "[I" ∈ gd_tb := gd_in (List.mem_of_getElem? (i := 117) (by decide +kernel)) (by decide +kernel)
theorem wd_118 : Cond.fieldLink R_W 15 R_W "members" "[I" ∈ gd_tb := gd_in (List.mem_of_getElem? (i := 118) (by decide +kernel)) (by decide +kernel)
theorem wd_119 : Cond.fieldLink R_W 18 R_W "sizes" "[I" ∈ gd_tb := gd_in (List.mem_of_getElem? (i := 119) (by decide +kernel)) (by decide +kernel)
theorem wd_120 : Cond.fieldLink R_X 92 R_W "sizes" "[I" ∈ gd_tb := gd_in (List.mem_of_getElem? (i := 120) (by decide +kernel)) (by decide +kernel)
theorem wd_121 : Cond.fieldLink R_W 21 R_W "walk" "[I" ∈ gd_tb := gd_in (List.mem_of_getElem? (i := 121) (by decide +kernel)) (by decide +kernel)
theorem wd_122 : Cond.fieldLink R_W 24 R_W "reachedBy" "[I" ∈ gd_tb := gd_in (List.mem_of_getElem? (i := 122) (by decide +kernel)) (by decide +kernel)
theorem wd_123 : Cond.fieldLink R_W 117 R_W "walked" "I" ∈ gd_tb := gd_in (List.mem_of_getElem? (i := 123) (by decide +kernel)) (by decide +kernel)
theorem wd_124 : Cond.fieldLink R_W 124 R_W "seen" "I" ∈ gd_tb := gd_in (List.mem_of_getElem? (i := 124) (by decide +kernel)) (by decide +kernel)
theorem wd_125 : Cond.fieldLink R_W 55 R_W "points" "I" ∈ gd_tb := gd_in (List.mem_of_getElem? (i := 125) (by decide +kernel)) (by decide +kernel)
theorem wd_126 : Cond.fieldLink R_X 86 R_W "points" "I" ∈ gd_tb := gd_in (List.mem_of_getElem? (i := 126) (by decide +kernel)) (by decide +kernel)
theorem wd_127 : Cond.fieldLink R_W 59 R_W "edges" "I" ∈ gd_tb := gd_in (List.mem_of_getElem? (i := 127) (by decide +kernel)) (by decide +kernel)
theorem wd_128 : Cond.fieldLink R_X 91 R_W "edges" "I" ∈ gd_tb := gd_in (List.mem_of_getElem? (i := 128) (by decide +kernel)) (by decide +kernel)
theorem wd_129 : Cond.fieldLink R_W 60 R_W "clusters" "I" ∈ gd_tb := gd_in (List.mem_of_getElem? (i := 129) (by decide +kernel)) (by decide +kernel)
theorem wd_130 : Cond.fieldLink R_X 152 R_W "clusters" "I" ∈ gd_tb := gd_in (List.mem_of_getElem? (i := 130) (by decide +kernel)) (by decide +kernel)
theorem wd_131 : Cond.fieldLink R_W 35 R_W "rounds" "I" ∈ gd_tb := gd_in (List.mem_of_getElem? (i := 131) (by decide +kernel)) (by decide +kernel)
theorem wd_132 : Cond.fieldLink R_X 83 R_W "rounds" "I" ∈ gd_tb := gd_in (List.mem_of_getElem? (i := 132) (by decide +kernel)) (by decide +kernel)
theorem wd_133 : Cond.fieldLink R_W 63 R_W "branches" "J" ∈ gd_tb := gd_in (List.mem_of_getElem? (i := 133) (by decide +kernel)) (by decide +kernel)
theorem wd_134 : Cond.fieldLink R_X 95 R_W "branches" "J" ∈ gd_tb := gd_in (List.mem_of_getElem? (i := 134) (by decide +kernel)) (by decide +kernel)
theorem wd_135 : Cond.fieldLink R_W 67 R_W "fix" "J" ∈ gd_tb := gd_in (List.mem_of_getElem? (i := 135) (by decide +kernel)) (by decide +kernel)
theorem wd_136 : Cond.fieldLink R_X 99 R_W "fix" "J" ∈ gd_tb := gd_in (List.mem_of_getElem? (i := 136) (by decide +kernel)) (by decide +kernel)
theorem wd_164 : Cond.classLink R_X 23 R_B ∈ gd_tb := gd_in (List.mem_of_getElem? (i := 164) (by decide +kernel)) (by decide +kernel)
theorem wd_165 : Cond.instantiable R_B 9 ∈ gd_tb := gd_in (List.mem_of_getElem? (i := 165) (by decide +kernel)) (by decide +kernel)
theorem wd_167 : Cond.instanceMethod y_B_init ∈ gd_tb := gd_in (List.mem_of_getElem? (i := 167) (by decide +kernel)) (by decide +kernel)
theorem wd_168 : Cond.code y_B_init b_B_init 1 none ∈ gd_tb := gd_in (List.mem_of_getElem? (i := 168) (by decide +kernel)) (by decide +kernel)
theorem wd_169 : Cond.methodLink R_B 3 ⟨"java/lang/Object", "<init>", "()V"⟩ ∈ gd_tb := gd_in (List.mem_of_getElem? (i := 169) (by decide +kernel)) (by decide +kernel)
theorem wd_170 : Cond.fieldLink R_B 9 R_B "fromFirst" "[I" ∈ gd_tb := gd_in (List.mem_of_getElem? (i := 170) (by decide +kernel)) (by decide +kernel)
theorem wd_171 : Cond.fieldLink R_X 128 R_B "fromFirst" "[I" ∈ gd_tb := gd_in (List.mem_of_getElem? (i := 171) (by decide +kernel)) (by decide +kernel)
theorem wd_172 : Cond.fieldLink R_B 15 R_B "fromSecond" "[I" ∈ gd_tb := gd_in (List.mem_of_getElem? (i := 172) (by decide +kernel)) (by decide +kernel)
theorem wd_173 : Cond.fieldLink R_X 131 R_B "fromSecond" "[I" ∈ gd_tb := gd_in (List.mem_of_getElem? (i := 173) (by decide +kernel)) (by decide +kernel)
theorem wd_174 : Cond.fieldLink R_B 18 R_B "toFirst" "[I" ∈ gd_tb := gd_in (List.mem_of_getElem? (i := 174) (by decide +kernel)) (by decide +kernel)
theorem wd_175 : Cond.fieldLink R_B 21 R_B "toSecond" "[I" ∈ gd_tb := gd_in (List.mem_of_getElem? (i := 175) (by decide +kernel)) (by decide +kernel)
theorem wd_176 : Cond.fieldLink R_B 24 R_B "least" "[I" ∈ gd_tb := gd_in (List.mem_of_getElem? (i := 176) (by decide +kernel)) (by decide +kernel)
theorem wd_177 : Cond.fieldLink R_B 27 R_B "next" "[I" ∈ gd_tb := gd_in (List.mem_of_getElem? (i := 177) (by decide +kernel)) (by decide +kernel)
theorem wd_178 : Cond.fieldLink R_B 87 R_B "flipped" "I" ∈ gd_tb := gd_in (List.mem_of_getElem? (i := 178) (by decide +kernel)) (by decide +kernel)
theorem wd_179 : Cond.fieldLink R_B 54 R_B "negative" "J" ∈ gd_tb := gd_in (List.mem_of_getElem? (i := 179) (by decide +kernel)) (by decide +kernel)
theorem wd_180 : Cond.fieldLink R_X 134 R_B "negative" "J" ∈ gd_tb := gd_in (List.mem_of_getElem? (i := 180) (by decide +kernel)) (by decide +kernel)
theorem wd_181 : Cond.fieldLink R_B 30 R_B "held" "Z" ∈ gd_tb := gd_in (List.mem_of_getElem? (i := 181) (by decide +kernel)) (by decide +kernel)
theorem wd_182 : Cond.fieldLink R_R 66 R_B "held" "Z" ∈ gd_tb := gd_in (List.mem_of_getElem? (i := 182) (by decide +kernel)) (by decide +kernel)
theorem wd_183 : Cond.fieldLink R_X 108 R_B "held" "Z" ∈ gd_tb := gd_in (List.mem_of_getElem? (i := 183) (by decide +kernel)) (by decide +kernel)
theorem wd_203 : Cond.classLink R_X 30 R_R ∈ gd_tb := gd_in (List.mem_of_getElem? (i := 203) (by decide +kernel)) (by decide +kernel)
theorem wd_204 : Cond.instantiable R_R 7 ∈ gd_tb := gd_in (List.mem_of_getElem? (i := 204) (by decide +kernel)) (by decide +kernel)
theorem wd_206 : Cond.instanceMethod y_R_init ∈ gd_tb := gd_in (List.mem_of_getElem? (i := 206) (by decide +kernel)) (by decide +kernel)
theorem wd_207 : Cond.code y_R_init b_R_init 1 none ∈ gd_tb := gd_in (List.mem_of_getElem? (i := 207) (by decide +kernel)) (by decide +kernel)
theorem wd_208 : Cond.methodLink R_R 3 ⟨"java/lang/Object", "<init>", "()V"⟩ ∈ gd_tb := gd_in (List.mem_of_getElem? (i := 208) (by decide +kernel)) (by decide +kernel)
theorem wd_209 : Cond.fieldLink R_R 9 R_R "order" "[I" ∈ gd_tb := gd_in (List.mem_of_getElem? (i := 209) (by decide +kernel)) (by decide +kernel)
theorem wd_210 : Cond.fieldLink R_R 15 R_R "weights" "[I" ∈ gd_tb := gd_in (List.mem_of_getElem? (i := 210) (by decide +kernel)) (by decide +kernel)
theorem wd_211 : Cond.fieldLink R_R 18 R_R "rowPoints" "[I" ∈ gd_tb := gd_in (List.mem_of_getElem? (i := 211) (by decide +kernel)) (by decide +kernel)
theorem wd_212 : Cond.fieldLink R_R 21 R_R "rowEdges" "[J" ∈ gd_tb := gd_in (List.mem_of_getElem? (i := 212) (by decide +kernel)) (by decide +kernel)
theorem wd_213 : Cond.fieldLink R_R 35 R_R "count" "I" ∈ gd_tb := gd_in (List.mem_of_getElem? (i := 213) (by decide +kernel)) (by decide +kernel)
theorem wd_214 : Cond.fieldLink R_X 145 R_R "count" "I" ∈ gd_tb := gd_in (List.mem_of_getElem? (i := 214) (by decide +kernel)) (by decide +kernel)
theorem wd_215 : Cond.fieldLink R_R 52 R_R "leftPoints" "I" ∈ gd_tb := gd_in (List.mem_of_getElem? (i := 215) (by decide +kernel)) (by decide +kernel)
theorem wd_216 : Cond.fieldLink R_R 60 R_R "usedEdges" "J" ∈ gd_tb := gd_in (List.mem_of_getElem? (i := 216) (by decide +kernel)) (by decide +kernel)
theorem wd_232 : Cond.arrayClass .long ∈ gd_tb := gd_in (List.mem_of_getElem? (i := 232) (by decide +kernel)) (by decide +kernel)
theorem wd_233 : Cond.fieldLink R_X 12 R_X "graph" "LGrowDecoder$Graph;" ∈ gd_tb := gd_in (List.mem_of_getElem? (i := 233) (by decide +kernel)) (by decide +kernel)
theorem wd_234 : Cond.fieldLink R_X 19 R_X "growth" "LGrowDecoder$Growth;" ∈ gd_tb := gd_in (List.mem_of_getElem? (i := 234) (by decide +kernel)) (by decide +kernel)
theorem wd_235 : Cond.fieldLink R_X 26 R_X "beliefs" "LGrowDecoder$Beliefs;" ∈ gd_tb := gd_in (List.mem_of_getElem? (i := 235) (by decide +kernel)) (by decide +kernel)
theorem wd_236 : Cond.fieldLink R_X 33 R_X "rows" "LGrowDecoder$Rows;" ∈ gd_tb := gd_in (List.mem_of_getElem? (i := 236) (by decide +kernel)) (by decide +kernel)
theorem wd_246 : Cond.methodLink R_L 27 y_X_point ∈ gd_tb := gd_in (List.mem_of_getElem? (i := 246) (by decide +kernel)) (by decide +kernel)
theorem wd_247 : Cond.instanceMethod y_X_point ∈ gd_tb := gd_in (List.mem_of_getElem? (i := 247) (by decide +kernel)) (by decide +kernel)
theorem wd_248 : Cond.selects R_X y_X_point y_X_point ∈ gd_tb := gd_in (List.mem_of_getElem? (i := 248) (by decide +kernel)) (by decide +kernel)
theorem wd_249 : Cond.code y_X_point b_X_point 2 (some .int) ∈ gd_tb := gd_in (List.mem_of_getElem? (i := 249) (by decide +kernel)) (by decide +kernel)
theorem wd_250 : Cond.methodLink R_X 41 y_B_forget ∈ gd_tb := gd_in (List.mem_of_getElem? (i := 250) (by decide +kernel)) (by decide +kernel)
theorem wd_251 : Cond.instanceMethod y_B_forget ∈ gd_tb := gd_in (List.mem_of_getElem? (i := 251) (by decide +kernel)) (by decide +kernel)
theorem wd_252 : Cond.selects R_B y_B_forget y_B_forget ∈ gd_tb := gd_in (List.mem_of_getElem? (i := 252) (by decide +kernel)) (by decide +kernel)
theorem wd_253 : Cond.code y_B_forget b_B_forget 1 none ∈ gd_tb := gd_in (List.mem_of_getElem? (i := 253) (by decide +kernel)) (by decide +kernel)
theorem wd_254 : Cond.methodLink R_X 44 y_G_addPoint ∈ gd_tb := gd_in (List.mem_of_getElem? (i := 254) (by decide +kernel)) (by decide +kernel)
theorem wd_255 : Cond.instanceMethod y_G_addPoint ∈ gd_tb := gd_in (List.mem_of_getElem? (i := 255) (by decide +kernel)) (by decide +kernel)
theorem wd_256 : Cond.selects R_G y_G_addPoint y_G_addPoint ∈ gd_tb := gd_in (List.mem_of_getElem? (i := 256) (by decide +kernel)) (by decide +kernel)
theorem wd_257 : Cond.code y_G_addPoint b_G_addPoint 3 (some .int) ∈ gd_tb := gd_in (List.mem_of_getElem? (i := 257) (by decide +kernel)) (by decide +kernel)
theorem wd_258 : Cond.methodLink R_L 32 y_X_edge ∈ gd_tb := gd_in (List.mem_of_getElem? (i := 258) (by decide +kernel)) (by decide +kernel)
theorem wd_259 : Cond.instanceMethod y_X_edge ∈ gd_tb := gd_in (List.mem_of_getElem? (i := 259) (by decide +kernel)) (by decide +kernel)
theorem wd_260 : Cond.selects R_X y_X_edge y_X_edge ∈ gd_tb := gd_in (List.mem_of_getElem? (i := 260) (by decide +kernel)) (by decide +kernel)
theorem wd_261 : Cond.code y_X_edge b_X_edge 4 (some .int) ∈ gd_tb := gd_in (List.mem_of_getElem? (i := 261) (by decide +kernel)) (by decide +kernel)
theorem wd_262 : Cond.methodLink R_X 48 y_G_canJoin ∈ gd_tb := gd_in (List.mem_of_getElem? (i := 262) (by decide +kernel)) (by decide +kernel)
theorem wd_263 : Cond.instanceMethod y_G_canJoin ∈ gd_tb := gd_in (List.mem_of_getElem? (i := 263) (by decide +kernel)) (by decide +kernel)
theorem wd_264 : Cond.selects R_G y_G_canJoin y_G_canJoin ∈ gd_tb := gd_in (List.mem_of_getElem? (i := 264) (by decide +kernel)) (by decide +kernel)
theorem wd_265 : Cond.code y_G_canJoin b_G_canJoin 3 (some .boolean) ∈ gd_tb := gd_in (List.mem_of_getElem? (i := 265) (by decide +kernel)) (by decide +kernel)
theorem wd_266 : Cond.methodLink R_G 34 y_G_hasPoint ∈ gd_tb := gd_in (List.mem_of_getElem? (i := 266) (by decide +kernel)) (by decide +kernel)
theorem wd_267 : Cond.instanceMethod y_G_hasPoint ∈ gd_tb := gd_in (List.mem_of_getElem? (i := 267) (by decide +kernel)) (by decide +kernel)
theorem wd_268 : Cond.selects R_G y_G_hasPoint y_G_hasPoint ∈ gd_tb := gd_in (List.mem_of_getElem? (i := 268) (by decide +kernel)) (by decide +kernel)
theorem wd_269 : Cond.code y_G_hasPoint b_G_hasPoint 2 (some .boolean) ∈ gd_tb := gd_in (List.mem_of_getElem? (i := 269) (by decide +kernel)) (by decide +kernel)
theorem wd_270 : Cond.methodLink R_G 38 y_G_isBoundary ∈ gd_tb := gd_in (List.mem_of_getElem? (i := 270) (by decide +kernel)) (by decide +kernel)
theorem wd_271 : Cond.instanceMethod y_G_isBoundary ∈ gd_tb := gd_in (List.mem_of_getElem? (i := 271) (by decide +kernel)) (by decide +kernel)
theorem wd_272 : Cond.selects R_G y_G_isBoundary y_G_isBoundary ∈ gd_tb := gd_in (List.mem_of_getElem? (i := 272) (by decide +kernel)) (by decide +kernel)
theorem wd_273 : Cond.code y_G_isBoundary b_G_isBoundary 2 (some .boolean) ∈ gd_tb := gd_in (List.mem_of_getElem? (i := 273) (by decide +kernel)) (by decide +kernel)
theorem wd_274 : Cond.methodLink R_X 55 y_G_addEdge ∈ gd_tb := gd_in (List.mem_of_getElem? (i := 274) (by decide +kernel)) (by decide +kernel)
theorem wd_275 : Cond.instanceMethod y_G_addEdge ∈ gd_tb := gd_in (List.mem_of_getElem? (i := 275) (by decide +kernel)) (by decide +kernel)
theorem wd_276 : Cond.selects R_G y_G_addEdge y_G_addEdge ∈ gd_tb := gd_in (List.mem_of_getElem? (i := 276) (by decide +kernel)) (by decide +kernel)
theorem wd_277 : Cond.code y_G_addEdge b_G_addEdge 5 (some .int) ∈ gd_tb := gd_in (List.mem_of_getElem? (i := 277) (by decide +kernel)) (by decide +kernel)
theorem wd_278 : Cond.methodLink R_L 37 y_X_fire ∈ gd_tb := gd_in (List.mem_of_getElem? (i := 278) (by decide +kernel)) (by decide +kernel)
theorem wd_279 : Cond.instanceMethod y_X_fire ∈ gd_tb := gd_in (List.mem_of_getElem? (i := 279) (by decide +kernel)) (by decide +kernel)
theorem wd_280 : Cond.selects R_X y_X_fire y_X_fire ∈ gd_tb := gd_in (List.mem_of_getElem? (i := 280) (by decide +kernel)) (by decide +kernel)
theorem wd_281 : Cond.code y_X_fire b_X_fire 3 (some .boolean) ∈ gd_tb := gd_in (List.mem_of_getElem? (i := 281) (by decide +kernel)) (by decide +kernel)
theorem wd_282 : Cond.methodLink R_X 59 y_G_hasPoint ∈ gd_tb := gd_in (List.mem_of_getElem? (i := 282) (by decide +kernel)) (by decide +kernel)
theorem wd_283 : Cond.methodLink R_X 63 y_G_isBoundary ∈ gd_tb := gd_in (List.mem_of_getElem? (i := 283) (by decide +kernel)) (by decide +kernel)
theorem wd_284 : Cond.methodLink R_X 66 y_G_isFired ∈ gd_tb := gd_in (List.mem_of_getElem? (i := 284) (by decide +kernel)) (by decide +kernel)
theorem wd_285 : Cond.instanceMethod y_G_isFired ∈ gd_tb := gd_in (List.mem_of_getElem? (i := 285) (by decide +kernel)) (by decide +kernel)
theorem wd_286 : Cond.selects R_G y_G_isFired y_G_isFired ∈ gd_tb := gd_in (List.mem_of_getElem? (i := 286) (by decide +kernel)) (by decide +kernel)
theorem wd_287 : Cond.code y_G_isFired b_G_isFired 2 (some .boolean) ∈ gd_tb := gd_in (List.mem_of_getElem? (i := 287) (by decide +kernel)) (by decide +kernel)
theorem wd_288 : Cond.methodLink R_L 51 y_X_cluster ∈ gd_tb := gd_in (List.mem_of_getElem? (i := 288) (by decide +kernel)) (by decide +kernel)
theorem wd_289 : Cond.instanceMethod y_X_cluster ∈ gd_tb := gd_in (List.mem_of_getElem? (i := 289) (by decide +kernel)) (by decide +kernel)
theorem wd_290 : Cond.selects R_X y_X_cluster y_X_cluster ∈ gd_tb := gd_in (List.mem_of_getElem? (i := 290) (by decide +kernel)) (by decide +kernel)
theorem wd_291 : Cond.code y_X_cluster b_X_cluster 2 (some .int) ∈ gd_tb := gd_in (List.mem_of_getElem? (i := 291) (by decide +kernel)) (by decide +kernel)
theorem wd_292 : Cond.methodLink R_L 56 y_X_size ∈ gd_tb := gd_in (List.mem_of_getElem? (i := 292) (by decide +kernel)) (by decide +kernel)
theorem wd_293 : Cond.instanceMethod y_X_size ∈ gd_tb := gd_in (List.mem_of_getElem? (i := 293) (by decide +kernel)) (by decide +kernel)
theorem wd_294 : Cond.selects R_X y_X_size y_X_size ∈ gd_tb := gd_in (List.mem_of_getElem? (i := 294) (by decide +kernel)) (by decide +kernel)
theorem wd_295 : Cond.code y_X_size b_X_size 2 (some .int) ∈ gd_tb := gd_in (List.mem_of_getElem? (i := 295) (by decide +kernel)) (by decide +kernel)
theorem wd_296 : Cond.methodLink R_L 60 y_X_grown ∈ gd_tb := gd_in (List.mem_of_getElem? (i := 296) (by decide +kernel)) (by decide +kernel)
theorem wd_297 : Cond.instanceMethod y_X_grown ∈ gd_tb := gd_in (List.mem_of_getElem? (i := 297) (by decide +kernel)) (by decide +kernel)
theorem wd_298 : Cond.selects R_X y_X_grown y_X_grown ∈ gd_tb := gd_in (List.mem_of_getElem? (i := 298) (by decide +kernel)) (by decide +kernel)
theorem wd_299 : Cond.code y_X_grown b_X_grown 2 (some .long) ∈ gd_tb := gd_in (List.mem_of_getElem? (i := 299) (by decide +kernel)) (by decide +kernel)
theorem wd_300 : Cond.constantLong R_X 102 (-1) ∈ gd_tb := gd_in (List.mem_of_getElem? (i := 300) (by decide +kernel)) (by decide +kernel)
theorem wd_301 : Cond.methodLink R_L 65 y_X_believe ∈ gd_tb := gd_in (List.mem_of_getElem? (i := 301) (by decide +kernel)) (by decide +kernel)
theorem wd_302 : Cond.instanceMethod y_X_believe ∈ gd_tb := gd_in (List.mem_of_getElem? (i := 302) (by decide +kernel)) (by decide +kernel)
theorem wd_303 : Cond.selects R_X y_X_believe y_X_believe ∈ gd_tb := gd_in (List.mem_of_getElem? (i := 303) (by decide +kernel)) (by decide +kernel)
theorem wd_304 : Cond.code y_X_believe b_X_believe 2 (some .int) ∈ gd_tb := gd_in (List.mem_of_getElem? (i := 304) (by decide +kernel)) (by decide +kernel)
theorem wd_305 : Cond.methodLink R_X 104 y_B_settle ∈ gd_tb := gd_in (List.mem_of_getElem? (i := 305) (by decide +kernel)) (by decide +kernel)
theorem wd_306 : Cond.instanceMethod y_B_settle ∈ gd_tb := gd_in (List.mem_of_getElem? (i := 306) (by decide +kernel)) (by decide +kernel)
theorem wd_307 : Cond.selects R_B y_B_settle y_B_settle ∈ gd_tb := gd_in (List.mem_of_getElem? (i := 307) (by decide +kernel)) (by decide +kernel)
theorem wd_308 : Cond.code y_B_settle b_B_settle 4 (some .int) ∈ gd_tb := gd_in (List.mem_of_getElem? (i := 308) (by decide +kernel)) (by decide +kernel)
theorem wd_309 : Cond.methodLink R_B 34 y_JA_fill ∈ gd_tb := gd_in (List.mem_of_getElem? (i := 309) (by decide +kernel)) (by decide +kernel)
theorem wd_310 : Cond.static y_JA_fill ∈ gd_tb := gd_in (List.mem_of_getElem? (i := 310) (by decide +kernel)) (by decide +kernel)
theorem wd_311 : Cond.code y_JA_fill b_JA_fill 4 none ∈ gd_tb := gd_in (List.mem_of_getElem? (i := 311) (by decide +kernel)) (by decide +kernel)
theorem wd_312 : Cond.methodLink R_B 40 y_B_sendToPoints ∈ gd_tb := gd_in (List.mem_of_getElem? (i := 312) (by decide +kernel)) (by decide +kernel)
theorem wd_314 : Cond.instanceMethod y_B_sendToPoints ∈ gd_tb := gd_in (List.mem_of_getElem? (i := 314) (by decide +kernel)) (by decide +kernel)
theorem wd_315 : Cond.code y_B_sendToPoints b_B_sendToPoints 3 none ∈ gd_tb := gd_in (List.mem_of_getElem? (i := 315) (by decide +kernel)) (by decide +kernel)
theorem wd_316 : Cond.methodLink R_B 74 y_B_bounded ∈ gd_tb := gd_in (List.mem_of_getElem? (i := 316) (by decide +kernel)) (by decide +kernel)
theorem wd_317 : Cond.static y_B_bounded ∈ gd_tb := gd_in (List.mem_of_getElem? (i := 317) (by decide +kernel)) (by decide +kernel)
theorem wd_318 : Cond.code y_B_bounded b_B_bounded 1 (some .int) ∈ gd_tb := gd_in (List.mem_of_getElem? (i := 318) (by decide +kernel)) (by decide +kernel)
theorem wd_319 : Cond.methodLink R_B 78 ⟨"java/lang/Math", "min", "(II)I"⟩ ∈ gd_tb := gd_in (List.mem_of_getElem? (i := 319) (by decide +kernel)) (by decide +kernel)
theorem wd_320 : Cond.static ⟨"java/lang/Math", "min", "(II)I"⟩ ∈ gd_tb := gd_in (List.mem_of_getElem? (i := 320) (by decide +kernel)) (by decide +kernel)
theorem wd_321 : Cond.code ⟨"java/lang/Math", "min", "(II)I"⟩ prog_13_method_69_code 2 (some .int) ∈ gd_tb := gd_in (List.mem_of_getElem? (i := 321) (by decide +kernel)) (by decide +kernel)
theorem wd_322 : Cond.methodLink R_B 84 ⟨"java/lang/Math", "max", "(II)I"⟩ ∈ gd_tb := gd_in (List.mem_of_getElem? (i := 322) (by decide +kernel)) (by decide +kernel)
theorem wd_323 : Cond.static ⟨"java/lang/Math", "max", "(II)I"⟩ ∈ gd_tb := gd_in (List.mem_of_getElem? (i := 323) (by decide +kernel)) (by decide +kernel)
theorem wd_324 : Cond.code ⟨"java/lang/Math", "max", "(II)I"⟩ prog_13_method_65_code 2 (some .int) ∈ gd_tb := gd_in (List.mem_of_getElem? (i := 324) (by decide +kernel)) (by decide +kernel)
theorem wd_325 : Cond.methodLink R_B 44 y_B_gather ∈ gd_tb := gd_in (List.mem_of_getElem? (i := 325) (by decide +kernel)) (by decide +kernel)
theorem wd_327 : Cond.instanceMethod y_B_gather ∈ gd_tb := gd_in (List.mem_of_getElem? (i := 327) (by decide +kernel)) (by decide +kernel)
theorem wd_328 : Cond.code y_B_gather b_B_gather 3 none ∈ gd_tb := gd_in (List.mem_of_getElem? (i := 328) (by decide +kernel)) (by decide +kernel)
theorem wd_329 : Cond.methodLink R_B 93 y_B_gatherAt ∈ gd_tb := gd_in (List.mem_of_getElem? (i := 329) (by decide +kernel)) (by decide +kernel)
theorem wd_331 : Cond.instanceMethod y_B_gatherAt ∈ gd_tb := gd_in (List.mem_of_getElem? (i := 331) (by decide +kernel)) (by decide +kernel)
theorem wd_332 : Cond.code y_B_gatherAt b_B_gatherAt 4 none ∈ gd_tb := gd_in (List.mem_of_getElem? (i := 332) (by decide +kernel)) (by decide +kernel)
theorem wd_333 : Cond.methodLink R_B 100 ⟨"java/lang/Math", "abs", "(I)I"⟩ ∈ gd_tb := gd_in (List.mem_of_getElem? (i := 333) (by decide +kernel)) (by decide +kernel)
theorem wd_334 : Cond.static ⟨"java/lang/Math", "abs", "(I)I"⟩ ∈ gd_tb := gd_in (List.mem_of_getElem? (i := 334) (by decide +kernel)) (by decide +kernel)
theorem wd_335 : Cond.code ⟨"java/lang/Math", "abs", "(I)I"⟩ prog_13_method_59_code 1 (some .int) ∈ gd_tb := gd_in (List.mem_of_getElem? (i := 335) (by decide +kernel)) (by decide +kernel)
theorem wd_336 : Cond.methodLink R_B 47 y_B_sendToEdges ∈ gd_tb := gd_in (List.mem_of_getElem? (i := 336) (by decide +kernel)) (by decide +kernel)
theorem wd_338 : Cond.instanceMethod y_B_sendToEdges ∈ gd_tb := gd_in (List.mem_of_getElem? (i := 338) (by decide +kernel)) (by decide +kernel)
theorem wd_339 : Cond.code y_B_sendToEdges b_B_sendToEdges 3 none ∈ gd_tb := gd_in (List.mem_of_getElem? (i := 339) (by decide +kernel)) (by decide +kernel)
theorem wd_340 : Cond.methodLink R_B 103 y_B_sentBack ∈ gd_tb := gd_in (List.mem_of_getElem? (i := 340) (by decide +kernel)) (by decide +kernel)
theorem wd_342 : Cond.instanceMethod y_B_sentBack ∈ gd_tb := gd_in (List.mem_of_getElem? (i := 342) (by decide +kernel)) (by decide +kernel)
theorem wd_343 : Cond.code y_B_sentBack b_B_sentBack 6 (some .int) ∈ gd_tb := gd_in (List.mem_of_getElem? (i := 343) (by decide +kernel)) (by decide +kernel)
theorem wd_344 : Cond.methodLink R_B 107 y_G_isBoundary ∈ gd_tb := gd_in (List.mem_of_getElem? (i := 344) (by decide +kernel)) (by decide +kernel)
theorem wd_345 : Cond.methodLink R_B 50 y_B_negativeEdges ∈ gd_tb := gd_in (List.mem_of_getElem? (i := 345) (by decide +kernel)) (by decide +kernel)
theorem wd_347 : Cond.instanceMethod y_B_negativeEdges ∈ gd_tb := gd_in (List.mem_of_getElem? (i := 347) (by decide +kernel)) (by decide +kernel)
theorem wd_348 : Cond.code y_B_negativeEdges b_B_negativeEdges 5 (some .long) ∈ gd_tb := gd_in (List.mem_of_getElem? (i := 348) (by decide +kernel)) (by decide +kernel)
theorem wd_349 : Cond.methodLink R_B 111 y_B_beliefOf ∈ gd_tb := gd_in (List.mem_of_getElem? (i := 349) (by decide +kernel)) (by decide +kernel)
theorem wd_350 : Cond.instanceMethod y_B_beliefOf ∈ gd_tb := gd_in (List.mem_of_getElem? (i := 350) (by decide +kernel)) (by decide +kernel)
theorem wd_351 : Cond.selects R_B y_B_beliefOf y_B_beliefOf ∈ gd_tb := gd_in (List.mem_of_getElem? (i := 351) (by decide +kernel)) (by decide +kernel)
theorem wd_352 : Cond.code y_B_beliefOf b_B_beliefOf 3 (some .int) ∈ gd_tb := gd_in (List.mem_of_getElem? (i := 352) (by decide +kernel)) (by decide +kernel)
theorem wd_353 : Cond.methodLink R_B 58 y_G_oddEnds ∈ gd_tb := gd_in (List.mem_of_getElem? (i := 353) (by decide +kernel)) (by decide +kernel)
theorem wd_354 : Cond.instanceMethod y_G_oddEnds ∈ gd_tb := gd_in (List.mem_of_getElem? (i := 354) (by decide +kernel)) (by decide +kernel)
theorem wd_355 : Cond.selects R_G y_G_oddEnds y_G_oddEnds ∈ gd_tb := gd_in (List.mem_of_getElem? (i := 355) (by decide +kernel)) (by decide +kernel)
theorem wd_356 : Cond.code y_G_oddEnds b_G_oddEnds 5 (some .int) ∈ gd_tb := gd_in (List.mem_of_getElem? (i := 356) (by decide +kernel)) (by decide +kernel)
theorem wd_357 : Cond.methodLink R_G 41 y_G_innerEnds ∈ gd_tb := gd_in (List.mem_of_getElem? (i := 357) (by decide +kernel)) (by decide +kernel)
theorem wd_358 : Cond.instanceMethod y_G_innerEnds ∈ gd_tb := gd_in (List.mem_of_getElem? (i := 358) (by decide +kernel)) (by decide +kernel)
theorem wd_359 : Cond.selects R_G y_G_innerEnds y_G_innerEnds ∈ gd_tb := gd_in (List.mem_of_getElem? (i := 359) (by decide +kernel)) (by decide +kernel)
theorem wd_360 : Cond.code y_G_innerEnds b_G_innerEnds 2 (some .int) ∈ gd_tb := gd_in (List.mem_of_getElem? (i := 360) (by decide +kernel)) (by decide +kernel)
theorem wd_361 : Cond.methodLink R_L 73 y_X_guess ∈ gd_tb := gd_in (List.mem_of_getElem? (i := 361) (by decide +kernel)) (by decide +kernel)
theorem wd_362 : Cond.instanceMethod y_X_guess ∈ gd_tb := gd_in (List.mem_of_getElem? (i := 362) (by decide +kernel)) (by decide +kernel)
theorem wd_363 : Cond.selects R_X y_X_guess y_X_guess ∈ gd_tb := gd_in (List.mem_of_getElem? (i := 363) (by decide +kernel)) (by decide +kernel)
theorem wd_364 : Cond.code y_X_guess b_X_guess 1 (some .long) ∈ gd_tb := gd_in (List.mem_of_getElem? (i := 364) (by decide +kernel)) (by decide +kernel)
theorem wd_365 : Cond.methodLink R_L 78 y_X_answer ∈ gd_tb := gd_in (List.mem_of_getElem? (i := 365) (by decide +kernel)) (by decide +kernel)
theorem wd_366 : Cond.instanceMethod y_X_answer ∈ gd_tb := gd_in (List.mem_of_getElem? (i := 366) (by decide +kernel)) (by decide +kernel)
theorem wd_367 : Cond.selects R_X y_X_answer y_X_answer ∈ gd_tb := gd_in (List.mem_of_getElem? (i := 367) (by decide +kernel)) (by decide +kernel)
theorem wd_368 : Cond.code y_X_answer b_X_answer 1 (some .long) ∈ gd_tb := gd_in (List.mem_of_getElem? (i := 368) (by decide +kernel)) (by decide +kernel)
theorem wd_369 : Cond.methodLink R_X 137 y_R_choose ∈ gd_tb := gd_in (List.mem_of_getElem? (i := 369) (by decide +kernel)) (by decide +kernel)
theorem wd_370 : Cond.instanceMethod y_R_choose ∈ gd_tb := gd_in (List.mem_of_getElem? (i := 370) (by decide +kernel)) (by decide +kernel)
theorem wd_371 : Cond.selects R_R y_R_choose y_R_choose ∈ gd_tb := gd_in (List.mem_of_getElem? (i := 371) (by decide +kernel)) (by decide +kernel)
theorem wd_372 : Cond.code y_R_choose b_R_choose 6 none ∈ gd_tb := gd_in (List.mem_of_getElem? (i := 372) (by decide +kernel)) (by decide +kernel)
theorem wd_373 : Cond.methodLink R_R 25 y_R_putInOrder ∈ gd_tb := gd_in (List.mem_of_getElem? (i := 373) (by decide +kernel)) (by decide +kernel)
theorem wd_375 : Cond.instanceMethod y_R_putInOrder ∈ gd_tb := gd_in (List.mem_of_getElem? (i := 375) (by decide +kernel)) (by decide +kernel)
theorem wd_376 : Cond.code y_R_putInOrder b_R_putInOrder 4 none ∈ gd_tb := gd_in (List.mem_of_getElem? (i := 376) (by decide +kernel)) (by decide +kernel)
theorem wd_377 : Cond.methodLink R_R 72 y_B_beliefOf ∈ gd_tb := gd_in (List.mem_of_getElem? (i := 377) (by decide +kernel)) (by decide +kernel)
theorem wd_378 : Cond.methodLink R_R 79 y_R_insert ∈ gd_tb := gd_in (List.mem_of_getElem? (i := 378) (by decide +kernel)) (by decide +kernel)
theorem wd_380 : Cond.instanceMethod y_R_insert ∈ gd_tb := gd_in (List.mem_of_getElem? (i := 380) (by decide +kernel)) (by decide +kernel)
theorem wd_381 : Cond.code y_R_insert b_R_insert 3 none ∈ gd_tb := gd_in (List.mem_of_getElem? (i := 381) (by decide +kernel)) (by decide +kernel)
theorem wd_382 : Cond.methodLink R_R 29 y_JA_fill ∈ gd_tb := gd_in (List.mem_of_getElem? (i := 382) (by decide +kernel)) (by decide +kernel)
theorem wd_383 : Cond.methodLink R_R 44 y_G_innerEnds ∈ gd_tb := gd_in (List.mem_of_getElem? (i := 383) (by decide +kernel)) (by decide +kernel)
theorem wd_384 : Cond.methodLink R_R 48 y_R_reduce ∈ gd_tb := gd_in (List.mem_of_getElem? (i := 384) (by decide +kernel)) (by decide +kernel)
theorem wd_386 : Cond.instanceMethod y_R_reduce ∈ gd_tb := gd_in (List.mem_of_getElem? (i := 386) (by decide +kernel)) (by decide +kernel)
theorem wd_387 : Cond.code y_R_reduce b_R_reduce 5 none ∈ gd_tb := gd_in (List.mem_of_getElem? (i := 387) (by decide +kernel)) (by decide +kernel)
theorem wd_388 : Cond.methodLink R_R 55 y_JI_numberOfTrailingZeros ∈ gd_tb := gd_in (List.mem_of_getElem? (i := 388) (by decide +kernel)) (by decide +kernel)
theorem wd_389 : Cond.static y_JI_numberOfTrailingZeros ∈ gd_tb := gd_in (List.mem_of_getElem? (i := 389) (by decide +kernel)) (by decide +kernel)
theorem wd_390 : Cond.code y_JI_numberOfTrailingZeros b_JI_numberOfTrailingZeros 2 (some .int) ∈ gd_tb := gd_in (List.mem_of_getElem? (i := 390) (by decide +kernel)) (by decide +kernel)
theorem wd_391 : Cond.constant R_JI 264 (65536) ∈ gd_tb := gd_in (List.mem_of_getElem? (i := 391) (by decide +kernel)) (by decide +kernel)
theorem wd_392 : Cond.methodLink R_X 141 y_R_solve ∈ gd_tb := gd_in (List.mem_of_getElem? (i := 392) (by decide +kernel)) (by decide +kernel)
theorem wd_393 : Cond.instanceMethod y_R_solve ∈ gd_tb := gd_in (List.mem_of_getElem? (i := 393) (by decide +kernel)) (by decide +kernel)
theorem wd_394 : Cond.selects R_R y_R_solve y_R_solve ∈ gd_tb := gd_in (List.mem_of_getElem? (i := 394) (by decide +kernel)) (by decide +kernel)
theorem wd_395 : Cond.code y_R_solve b_R_solve 2 (some .long) ∈ gd_tb := gd_in (List.mem_of_getElem? (i := 395) (by decide +kernel)) (by decide +kernel)
theorem wd_396 : Cond.constantLong R_R 64 (-1) ∈ gd_tb := gd_in (List.mem_of_getElem? (i := 396) (by decide +kernel)) (by decide +kernel)
theorem wd_397 : Cond.methodLink R_L 82 y_X_chosen ∈ gd_tb := gd_in (List.mem_of_getElem? (i := 397) (by decide +kernel)) (by decide +kernel)
theorem wd_398 : Cond.instanceMethod y_X_chosen ∈ gd_tb := gd_in (List.mem_of_getElem? (i := 398) (by decide +kernel)) (by decide +kernel)
theorem wd_399 : Cond.selects R_X y_X_chosen y_X_chosen ∈ gd_tb := gd_in (List.mem_of_getElem? (i := 399) (by decide +kernel)) (by decide +kernel)
theorem wd_400 : Cond.code y_X_chosen b_X_chosen 1 (some .int) ∈ gd_tb := gd_in (List.mem_of_getElem? (i := 400) (by decide +kernel)) (by decide +kernel)
theorem wd_401 : Cond.methodLink R_L 88 y_X_syndrome ∈ gd_tb := gd_in (List.mem_of_getElem? (i := 401) (by decide +kernel)) (by decide +kernel)
theorem wd_402 : Cond.instanceMethod y_X_syndrome ∈ gd_tb := gd_in (List.mem_of_getElem? (i := 402) (by decide +kernel)) (by decide +kernel)
theorem wd_403 : Cond.selects R_X y_X_syndrome y_X_syndrome ∈ gd_tb := gd_in (List.mem_of_getElem? (i := 403) (by decide +kernel)) (by decide +kernel)
theorem wd_404 : Cond.code y_X_syndrome b_X_syndrome 3 (some .int) ∈ gd_tb := gd_in (List.mem_of_getElem? (i := 404) (by decide +kernel)) (by decide +kernel)
theorem wd_405 : Cond.methodLink R_X 148 y_G_oddEnds ∈ gd_tb := gd_in (List.mem_of_getElem? (i := 405) (by decide +kernel)) (by decide +kernel)
theorem wd_406 : Cond.methodLink R_L 93 y_X_total ∈ gd_tb := gd_in (List.mem_of_getElem? (i := 406) (by decide +kernel)) (by decide +kernel)
theorem wd_407 : Cond.instanceMethod y_X_total ∈ gd_tb := gd_in (List.mem_of_getElem? (i := 407) (by decide +kernel)) (by decide +kernel)
theorem wd_408 : Cond.selects R_X y_X_total y_X_total ∈ gd_tb := gd_in (List.mem_of_getElem? (i := 408) (by decide +kernel)) (by decide +kernel)
theorem wd_409 : Cond.code y_X_total b_X_total 2 (some .int) ∈ gd_tb := gd_in (List.mem_of_getElem? (i := 409) (by decide +kernel)) (by decide +kernel)
theorem wd_410 : Cond.methodLink R_L 42 y_L_grow ∈ gd_tb := gd_in (List.mem_of_getElem? (i := 410) (by decide +kernel)) (by decide +kernel)
theorem wd_411 : Cond.static y_L_grow ∈ gd_tb := gd_in (List.mem_of_getElem? (i := 411) (by decide +kernel)) (by decide +kernel)
theorem wd_413 : Cond.classLink R_L 13 "java/lang/ArithmeticException" ∈ gd_tb := gd_in (List.mem_of_getElem? (i := 413) (by decide +kernel)) (by decide +kernel)
theorem wd_414 : Cond.methodLink R_L 7 y_X_grow ∈ gd_tb := gd_in (List.mem_of_getElem? (i := 414) (by decide +kernel)) (by decide +kernel)
theorem wd_415 : Cond.instanceMethod y_X_grow ∈ gd_tb := gd_in (List.mem_of_getElem? (i := 415) (by decide +kernel)) (by decide +kernel)
theorem wd_416 : Cond.selects R_X y_X_grow y_X_grow ∈ gd_tb := gd_in (List.mem_of_getElem? (i := 416) (by decide +kernel)) (by decide +kernel)
theorem wd_417 : Cond.code y_X_grow b_X_grow 1 (some .int) ∈ gd_tb := gd_in (List.mem_of_getElem? (i := 417) (by decide +kernel)) (by decide +kernel)
theorem wd_418 : Cond.methodLink R_X 72 y_W_growOver ∈ gd_tb := gd_in (List.mem_of_getElem? (i := 418) (by decide +kernel)) (by decide +kernel)
theorem wd_419 : Cond.instanceMethod y_W_growOver ∈ gd_tb := gd_in (List.mem_of_getElem? (i := 419) (by decide +kernel)) (by decide +kernel)
theorem wd_420 : Cond.selects R_W y_W_growOver y_W_growOver ∈ gd_tb := gd_in (List.mem_of_getElem? (i := 420) (by decide +kernel)) (by decide +kernel)
theorem wd_421 : Cond.code y_W_growOver b_W_growOver 5 (some .boolean) ∈ gd_tb := gd_in (List.mem_of_getElem? (i := 421) (by decide +kernel)) (by decide +kernel)
theorem wd_422 : Cond.methodLink R_W 27 y_W_begin ∈ gd_tb := gd_in (List.mem_of_getElem? (i := 422) (by decide +kernel)) (by decide +kernel)
theorem wd_424 : Cond.instanceMethod y_W_begin ∈ gd_tb := gd_in (List.mem_of_getElem? (i := 424) (by decide +kernel)) (by decide +kernel)
theorem wd_425 : Cond.code y_W_begin b_W_begin 3 none ∈ gd_tb := gd_in (List.mem_of_getElem? (i := 425) (by decide +kernel)) (by decide +kernel)
theorem wd_426 : Cond.methodLink R_W 70 y_JA_fill ∈ gd_tb := gd_in (List.mem_of_getElem? (i := 426) (by decide +kernel)) (by decide +kernel)
theorem wd_427 : Cond.methodLink R_W 31 y_W_pointsOfOddClusters ∈ gd_tb := gd_in (List.mem_of_getElem? (i := 427) (by decide +kernel)) (by decide +kernel)
theorem wd_429 : Cond.instanceMethod y_W_pointsOfOddClusters ∈ gd_tb := gd_in (List.mem_of_getElem? (i := 429) (by decide +kernel)) (by decide +kernel)
theorem wd_430 : Cond.code y_W_pointsOfOddClusters b_W_pointsOfOddClusters 4 (some .int) ∈ gd_tb := gd_in (List.mem_of_getElem? (i := 430) (by decide +kernel)) (by decide +kernel)
theorem wd_431 : Cond.methodLink R_W 76 y_W_isOdd ∈ gd_tb := gd_in (List.mem_of_getElem? (i := 431) (by decide +kernel)) (by decide +kernel)
theorem wd_432 : Cond.static y_W_isOdd ∈ gd_tb := gd_in (List.mem_of_getElem? (i := 432) (by decide +kernel)) (by decide +kernel)
theorem wd_433 : Cond.code y_W_isOdd b_W_isOdd 2 (some .boolean) ∈ gd_tb := gd_in (List.mem_of_getElem? (i := 433) (by decide +kernel)) (by decide +kernel)
theorem wd_434 : Cond.methodLink R_W 86 y_JI_bitCount ∈ gd_tb := gd_in (List.mem_of_getElem? (i := 434) (by decide +kernel)) (by decide +kernel)
theorem wd_435 : Cond.static y_JI_bitCount ∈ gd_tb := gd_in (List.mem_of_getElem? (i := 435) (by decide +kernel)) (by decide +kernel)
theorem wd_436 : Cond.code y_JI_bitCount b_JI_bitCount 1 (some .int) ∈ gd_tb := gd_in (List.mem_of_getElem? (i := 436) (by decide +kernel)) (by decide +kernel)
theorem wd_437 : Cond.constant R_JI 265 (1431655765) ∈ gd_tb := gd_in (List.mem_of_getElem? (i := 437) (by decide +kernel)) (by decide +kernel)
theorem wd_438 : Cond.constant R_JI 266 (858993459) ∈ gd_tb := gd_in (List.mem_of_getElem? (i := 438) (by decide +kernel)) (by decide +kernel)
theorem wd_439 : Cond.constant R_JI 267 (252645135) ∈ gd_tb := gd_in (List.mem_of_getElem? (i := 439) (by decide +kernel)) (by decide +kernel)
theorem wd_440 : Cond.methodLink R_W 39 y_W_feed ∈ gd_tb := gd_in (List.mem_of_getElem? (i := 440) (by decide +kernel)) (by decide +kernel)
theorem wd_442 : Cond.instanceMethod y_W_feed ∈ gd_tb := gd_in (List.mem_of_getElem? (i := 442) (by decide +kernel)) (by decide +kernel)
theorem wd_443 : Cond.code y_W_feed b_W_feed 7 (some .long) ∈ gd_tb := gd_in (List.mem_of_getElem? (i := 443) (by decide +kernel)) (by decide +kernel)
theorem wd_444 : Cond.methodLink R_W 43 y_W_joinFull ∈ gd_tb := gd_in (List.mem_of_getElem? (i := 444) (by decide +kernel)) (by decide +kernel)
theorem wd_446 : Cond.instanceMethod y_W_joinFull ∈ gd_tb := gd_in (List.mem_of_getElem? (i := 446) (by decide +kernel)) (by decide +kernel)
theorem wd_447 : Cond.code y_W_joinFull b_W_joinFull 6 none ∈ gd_tb := gd_in (List.mem_of_getElem? (i := 447) (by decide +kernel)) (by decide +kernel)
theorem wd_448 : Cond.methodLink R_W 101 y_W_join ∈ gd_tb := gd_in (List.mem_of_getElem? (i := 448) (by decide +kernel)) (by decide +kernel)
theorem wd_450 : Cond.instanceMethod y_W_join ∈ gd_tb := gd_in (List.mem_of_getElem? (i := 450) (by decide +kernel)) (by decide +kernel)
theorem wd_451 : Cond.code y_W_join b_W_join 6 none ∈ gd_tb := gd_in (List.mem_of_getElem? (i := 451) (by decide +kernel)) (by decide +kernel)
theorem wd_452 : Cond.methodLink R_W 105 ⟨"java/lang/Math", "min", "(II)I"⟩ ∈ gd_tb := gd_in (List.mem_of_getElem? (i := 452) (by decide +kernel)) (by decide +kernel)
theorem wd_453 : Cond.methodLink R_W 111 ⟨"java/lang/Math", "max", "(II)I"⟩ ∈ gd_tb := gd_in (List.mem_of_getElem? (i := 453) (by decide +kernel)) (by decide +kernel)
theorem wd_454 : Cond.methodLink R_W 47 y_W_peel ∈ gd_tb := gd_in (List.mem_of_getElem? (i := 454) (by decide +kernel)) (by decide +kernel)
theorem wd_456 : Cond.instanceMethod y_W_peel ∈ gd_tb := gd_in (List.mem_of_getElem? (i := 456) (by decide +kernel)) (by decide +kernel)
theorem wd_457 : Cond.code y_W_peel b_W_peel 6 none ∈ gd_tb := gd_in (List.mem_of_getElem? (i := 457) (by decide +kernel)) (by decide +kernel)
theorem wd_458 : Cond.methodLink R_W 114 y_W_walkFromRoots ∈ gd_tb := gd_in (List.mem_of_getElem? (i := 458) (by decide +kernel)) (by decide +kernel)
theorem wd_460 : Cond.instanceMethod y_W_walkFromRoots ∈ gd_tb := gd_in (List.mem_of_getElem? (i := 460) (by decide +kernel)) (by decide +kernel)
theorem wd_461 : Cond.code y_W_walkFromRoots b_W_walkFromRoots 3 none ∈ gd_tb := gd_in (List.mem_of_getElem? (i := 461) (by decide +kernel)) (by decide +kernel)
theorem wd_462 : Cond.methodLink R_W 127 y_W_rootOf ∈ gd_tb := gd_in (List.mem_of_getElem? (i := 462) (by decide +kernel)) (by decide +kernel)
theorem wd_464 : Cond.instanceMethod y_W_rootOf ∈ gd_tb := gd_in (List.mem_of_getElem? (i := 464) (by decide +kernel)) (by decide +kernel)
theorem wd_465 : Cond.code y_W_rootOf b_W_rootOf 4 (some .int) ∈ gd_tb := gd_in (List.mem_of_getElem? (i := 465) (by decide +kernel)) (by decide +kernel)
theorem wd_466 : Cond.methodLink R_W 138 y_JI_numberOfTrailingZeros ∈ gd_tb := gd_in (List.mem_of_getElem? (i := 466) (by decide +kernel)) (by decide +kernel)
theorem wd_467 : Cond.methodLink R_W 131 y_W_reach ∈ gd_tb := gd_in (List.mem_of_getElem? (i := 467) (by decide +kernel)) (by decide +kernel)
theorem wd_469 : Cond.instanceMethod y_W_reach ∈ gd_tb := gd_in (List.mem_of_getElem? (i := 469) (by decide +kernel)) (by decide +kernel)
theorem wd_470 : Cond.code y_W_reach b_W_reach 3 none ∈ gd_tb := gd_in (List.mem_of_getElem? (i := 470) (by decide +kernel)) (by decide +kernel)
theorem wd_471 : Cond.methodLink R_W 134 y_W_walkOnFrom ∈ gd_tb := gd_in (List.mem_of_getElem? (i := 471) (by decide +kernel)) (by decide +kernel)
theorem wd_473 : Cond.instanceMethod y_W_walkOnFrom ∈ gd_tb := gd_in (List.mem_of_getElem? (i := 473) (by decide +kernel)) (by decide +kernel)
theorem wd_474 : Cond.code y_W_walkOnFrom b_W_walkOnFrom 5 none ∈ gd_tb := gd_in (List.mem_of_getElem? (i := 474) (by decide +kernel)) (by decide +kernel)
theorem wd_475 : Cond.methodLink R_W 120 y_W_otherEnd ∈ gd_tb := gd_in (List.mem_of_getElem? (i := 475) (by decide +kernel)) (by decide +kernel)
theorem wd_476 : Cond.static y_W_otherEnd ∈ gd_tb := gd_in (List.mem_of_getElem? (i := 476) (by decide +kernel)) (by decide +kernel)
theorem wd_477 : Cond.code y_W_otherEnd b_W_otherEnd 3 (some .int) ∈ gd_tb := gd_in (List.mem_of_getElem? (i := 477) (by decide +kernel)) (by decide +kernel)
theorem wd_478 : Cond.classLink R_X 76 "java/lang/ArithmeticException" ∈ gd_tb := gd_in (List.mem_of_getElem? (i := 478) (by decide +kernel)) (by decide +kernel)
theorem wd_479 : Cond.instantiable "java/lang/ArithmeticException" 6 ∈ gd_tb := gd_in (List.mem_of_getElem? (i := 479) (by decide +kernel)) (by decide +kernel)
theorem wd_487 : Cond.selects "java/lang/ArithmeticException" ⟨"java/lang/Throwable", "fillInStackTrace", "(I)Ljava/lang/Throwable;"⟩ ⟨"java/lang/Throwable", "fillInStackTrace", "(I)Ljava/lang/Throwable;"⟩ ∈ gd_tb := gd_in (List.mem_of_getElem? (i := 487) (by decide +kernel)) (by decide +kernel)
theorem wd_488 : Cond.selects "java/lang/ArithmeticException" ⟨"java/lang/Throwable", "fillInStackTrace", "()Ljava/lang/Throwable;"⟩ ⟨"java/lang/Throwable", "fillInStackTrace", "()Ljava/lang/Throwable;"⟩ ∈ gd_tb := gd_in (List.mem_of_getElem? (i := 488) (by decide +kernel)) (by decide +kernel)
theorem wd_499 : Cond.fieldLink "java/lang/Throwable" 198 "java/lang/Throwable" "backtrace" "Ljava/lang/Object;" ∈ gd_tb := gd_in (List.mem_of_getElem? (i := 499) (by decide +kernel)) (by decide +kernel)
theorem wd_501 : Cond.instanceMethod ⟨"java/lang/Throwable", "<init>", "()V"⟩ ∈ gd_tb := gd_in (List.mem_of_getElem? (i := 501) (by decide +kernel)) (by decide +kernel)
theorem wd_502 : Cond.code ⟨"java/lang/Throwable", "<init>", "()V"⟩ prog_16_method_1_code 1 none ∈ gd_tb := gd_in (List.mem_of_getElem? (i := 502) (by decide +kernel)) (by decide +kernel)
theorem wd_503 : Cond.methodLink "java/lang/Throwable" 1 ⟨"java/lang/Object", "<init>", "()V"⟩ ∈ gd_tb := gd_in (List.mem_of_getElem? (i := 503) (by decide +kernel)) (by decide +kernel)
theorem wd_504 : Cond.fieldLink "java/lang/Throwable" 13 "java/lang/Throwable" "UNASSIGNED_STACK" "[Ljava/lang/StackTraceElement;" ∈ gd_tb := gd_in (List.mem_of_getElem? (i := 504) (by decide +kernel)) (by decide +kernel)
theorem wd_506 : Cond.fieldLink "java/lang/Throwable" 20 "java/lang/Throwable" "SUPPRESSED_SENTINEL" "Ljava/util/List;" ∈ gd_tb := gd_in (List.mem_of_getElem? (i := 506) (by decide +kernel)) (by decide +kernel)
theorem wd_508 : Cond.methodLink "java/lang/Throwable" 27 ⟨"java/lang/Throwable", "fillInStackTrace", "()Ljava/lang/Throwable;"⟩ ∈ gd_tb := gd_in (List.mem_of_getElem? (i := 508) (by decide +kernel)) (by decide +kernel)
theorem wd_509 : Cond.instanceMethod ⟨"java/lang/Throwable", "fillInStackTrace", "()Ljava/lang/Throwable;"⟩ ∈ gd_tb := gd_in (List.mem_of_getElem? (i := 509) (by decide +kernel)) (by decide +kernel)
theorem wd_511 : Cond.selects "java/lang/IllegalArgumentException" ⟨"java/lang/Throwable", "fillInStackTrace", "()Ljava/lang/Throwable;"⟩ ⟨"java/lang/Throwable", "fillInStackTrace", "()Ljava/lang/Throwable;"⟩ ∈ gd_tb := gd_in (List.mem_of_getElem? (i := 511) (by decide +kernel)) (by decide +kernel)
theorem wd_512 : Cond.selects "java/lang/IllegalStateException" ⟨"java/lang/Throwable", "fillInStackTrace", "()Ljava/lang/Throwable;"⟩ ⟨"java/lang/Throwable", "fillInStackTrace", "()Ljava/lang/Throwable;"⟩ ∈ gd_tb := gd_in (List.mem_of_getElem? (i := 512) (by decide +kernel)) (by decide +kernel)
theorem wd_514 : Cond.methodLink "java/lang/Throwable" 202 ⟨"java/lang/Throwable", "fillInStackTrace", "(I)Ljava/lang/Throwable;"⟩ ∈ gd_tb := gd_in (List.mem_of_getElem? (i := 514) (by decide +kernel)) (by decide +kernel)
theorem wd_516 : Cond.instanceMethod ⟨"java/lang/Throwable", "fillInStackTrace", "(I)Ljava/lang/Throwable;"⟩ ∈ gd_tb := gd_in (List.mem_of_getElem? (i := 516) (by decide +kernel)) (by decide +kernel)
theorem wd_517 : Cond.instantiable "java/lang/Throwable" 6 ∈ gd_tb := gd_in (List.mem_of_getElem? (i := 517) (by decide +kernel)) (by decide +kernel)
theorem wd_520 : Cond.methodLink R_X 80 ⟨"java/lang/ArithmeticException", "<init>", "(Ljava/lang/String;)V"⟩ ∈ gd_tb := gd_in (List.mem_of_getElem? (i := 520) (by decide +kernel)) (by decide +kernel)
theorem wd_521 : Cond.instanceMethod ⟨"java/lang/ArithmeticException", "<init>", "(Ljava/lang/String;)V"⟩ ∈ gd_tb := gd_in (List.mem_of_getElem? (i := 521) (by decide +kernel)) (by decide +kernel)
theorem wd_522 : Cond.code ⟨"java/lang/ArithmeticException", "<init>", "(Ljava/lang/String;)V"⟩ prog_8_method_2_code 2 none ∈ gd_tb := gd_in (List.mem_of_getElem? (i := 522) (by decide +kernel)) (by decide +kernel)
theorem wd_523 : Cond.methodLink "java/lang/ArithmeticException" 7 ⟨"java/lang/RuntimeException", "<init>", "(Ljava/lang/String;)V"⟩ ∈ gd_tb := gd_in (List.mem_of_getElem? (i := 523) (by decide +kernel)) (by decide +kernel)
theorem wd_524 : Cond.instanceMethod ⟨"java/lang/RuntimeException", "<init>", "(Ljava/lang/String;)V"⟩ ∈ gd_tb := gd_in (List.mem_of_getElem? (i := 524) (by decide +kernel)) (by decide +kernel)
theorem wd_525 : Cond.code ⟨"java/lang/RuntimeException", "<init>", "(Ljava/lang/String;)V"⟩ prog_14_method_2_code 2 none ∈ gd_tb := gd_in (List.mem_of_getElem? (i := 525) (by decide +kernel)) (by decide +kernel)
theorem wd_526 : Cond.methodLink "java/lang/RuntimeException" 7 ⟨"java/lang/Exception", "<init>", "(Ljava/lang/String;)V"⟩ ∈ gd_tb := gd_in (List.mem_of_getElem? (i := 526) (by decide +kernel)) (by decide +kernel)
theorem wd_527 : Cond.instanceMethod ⟨"java/lang/Exception", "<init>", "(Ljava/lang/String;)V"⟩ ∈ gd_tb := gd_in (List.mem_of_getElem? (i := 527) (by decide +kernel)) (by decide +kernel)
theorem wd_528 : Cond.code ⟨"java/lang/Exception", "<init>", "(Ljava/lang/String;)V"⟩ prog_9_method_2_code 2 none ∈ gd_tb := gd_in (List.mem_of_getElem? (i := 528) (by decide +kernel)) (by decide +kernel)
theorem wd_529 : Cond.methodLink "java/lang/Exception" 7 ⟨"java/lang/Throwable", "<init>", "(Ljava/lang/String;)V"⟩ ∈ gd_tb := gd_in (List.mem_of_getElem? (i := 529) (by decide +kernel)) (by decide +kernel)
theorem wd_530 : Cond.instanceMethod ⟨"java/lang/Throwable", "<init>", "(Ljava/lang/String;)V"⟩ ∈ gd_tb := gd_in (List.mem_of_getElem? (i := 530) (by decide +kernel)) (by decide +kernel)
theorem wd_531 : Cond.code ⟨"java/lang/Throwable", "<init>", "(Ljava/lang/String;)V"⟩ prog_16_method_2_code 2 none ∈ gd_tb := gd_in (List.mem_of_getElem? (i := 531) (by decide +kernel)) (by decide +kernel)
theorem wd_533 : Cond.fieldLink "java/lang/Throwable" 31 "java/lang/Throwable" "detailMessage" "Ljava/lang/String;" ∈ gd_tb := gd_in (List.mem_of_getElem? (i := 533) (by decide +kernel)) (by decide +kernel)
theorem wd_534 : Cond.fieldLink "java/lang/Throwable" 7 "java/lang/Throwable" "cause" "Ljava/lang/Throwable;" ∈ gd_tb := gd_in (List.mem_of_getElem? (i := 534) (by decide +kernel)) (by decide +kernel)
theorem wd_535 : Cond.fieldLink "java/lang/Throwable" 17 "java/lang/Throwable" "stackTrace" "[Ljava/lang/StackTraceElement;" ∈ gd_tb := gd_in (List.mem_of_getElem? (i := 535) (by decide +kernel)) (by decide +kernel)
theorem wd_536 : Cond.fieldLink "java/lang/Throwable" 24 "java/lang/Throwable" "suppressedExceptions" "Ljava/util/List;" ∈ gd_tb := gd_in (List.mem_of_getElem? (i := 536) (by decide +kernel)) (by decide +kernel)
theorem wd_545 : Cond.arrayClass .byte ∈ gd_tb := gd_in (List.mem_of_getElem? (i := 545) (by decide +kernel)) (by decide +kernel)
theorem wd_546 : Cond.methodLink R_L 69 y_L_sent ∈ gd_tb := gd_in (List.mem_of_getElem? (i := 546) (by decide +kernel)) (by decide +kernel)
theorem wd_547 : Cond.static y_L_sent ∈ gd_tb := gd_in (List.mem_of_getElem? (i := 547) (by decide +kernel)) (by decide +kernel)
theorem wd_549 : Cond.classLink R_L 19 "java/lang/IllegalStateException" ∈ gd_tb := gd_in (List.mem_of_getElem? (i := 549) (by decide +kernel)) (by decide +kernel)
theorem wd_550 : Cond.classLink R_L 21 "java/lang/IllegalArgumentException" ∈ gd_tb := gd_in (List.mem_of_getElem? (i := 550) (by decide +kernel)) (by decide +kernel)
theorem wd_551 : Cond.methodLink R_L 15 y_X_sent ∈ gd_tb := gd_in (List.mem_of_getElem? (i := 551) (by decide +kernel)) (by decide +kernel)
theorem wd_552 : Cond.instanceMethod y_X_sent ∈ gd_tb := gd_in (List.mem_of_getElem? (i := 552) (by decide +kernel)) (by decide +kernel)
theorem wd_553 : Cond.selects R_X y_X_sent y_X_sent ∈ gd_tb := gd_in (List.mem_of_getElem? (i := 553) (by decide +kernel)) (by decide +kernel)
theorem wd_554 : Cond.code y_X_sent b_X_sent 3 (some .int) ∈ gd_tb := gd_in (List.mem_of_getElem? (i := 554) (by decide +kernel)) (by decide +kernel)
theorem wd_555 : Cond.classLink R_X 112 "java/lang/IllegalStateException" ∈ gd_tb := gd_in (List.mem_of_getElem? (i := 555) (by decide +kernel)) (by decide +kernel)
theorem wd_556 : Cond.instantiable "java/lang/IllegalStateException" 6 ∈ gd_tb := gd_in (List.mem_of_getElem? (i := 556) (by decide +kernel)) (by decide +kernel)
theorem wd_558 : Cond.selects "java/lang/IllegalStateException" ⟨"java/lang/Throwable", "fillInStackTrace", "(I)Ljava/lang/Throwable;"⟩ ⟨"java/lang/Throwable", "fillInStackTrace", "(I)Ljava/lang/Throwable;"⟩ ∈ gd_tb := gd_in (List.mem_of_getElem? (i := 558) (by decide +kernel)) (by decide +kernel)
theorem wd_565 : Cond.methodLink R_X 116 ⟨"java/lang/IllegalStateException", "<init>", "(Ljava/lang/String;)V"⟩ ∈ gd_tb := gd_in (List.mem_of_getElem? (i := 565) (by decide +kernel)) (by decide +kernel)
theorem wd_566 : Cond.instanceMethod ⟨"java/lang/IllegalStateException", "<init>", "(Ljava/lang/String;)V"⟩ ∈ gd_tb := gd_in (List.mem_of_getElem? (i := 566) (by decide +kernel)) (by decide +kernel)
theorem wd_567 : Cond.code ⟨"java/lang/IllegalStateException", "<init>", "(Ljava/lang/String;)V"⟩ prog_11_method_2_code 2 none ∈ gd_tb := gd_in (List.mem_of_getElem? (i := 567) (by decide +kernel)) (by decide +kernel)
theorem wd_568 : Cond.methodLink "java/lang/IllegalStateException" 7 ⟨"java/lang/RuntimeException", "<init>", "(Ljava/lang/String;)V"⟩ ∈ gd_tb := gd_in (List.mem_of_getElem? (i := 568) (by decide +kernel)) (by decide +kernel)
theorem wd_571 : Cond.methodLink R_X 117 y_G_hasEdge ∈ gd_tb := gd_in (List.mem_of_getElem? (i := 571) (by decide +kernel)) (by decide +kernel)
theorem wd_572 : Cond.instanceMethod y_G_hasEdge ∈ gd_tb := gd_in (List.mem_of_getElem? (i := 572) (by decide +kernel)) (by decide +kernel)
theorem wd_573 : Cond.selects R_G y_G_hasEdge y_G_hasEdge ∈ gd_tb := gd_in (List.mem_of_getElem? (i := 573) (by decide +kernel)) (by decide +kernel)
theorem wd_574 : Cond.code y_G_hasEdge b_G_hasEdge 2 (some .boolean) ∈ gd_tb := gd_in (List.mem_of_getElem? (i := 574) (by decide +kernel)) (by decide +kernel)
theorem wd_575 : Cond.classLink R_X 120 "java/lang/IllegalArgumentException" ∈ gd_tb := gd_in (List.mem_of_getElem? (i := 575) (by decide +kernel)) (by decide +kernel)
theorem wd_576 : Cond.instantiable "java/lang/IllegalArgumentException" 6 ∈ gd_tb := gd_in (List.mem_of_getElem? (i := 576) (by decide +kernel)) (by decide +kernel)
theorem wd_578 : Cond.selects "java/lang/IllegalArgumentException" ⟨"java/lang/Throwable", "fillInStackTrace", "(I)Ljava/lang/Throwable;"⟩ ⟨"java/lang/Throwable", "fillInStackTrace", "(I)Ljava/lang/Throwable;"⟩ ∈ gd_tb := gd_in (List.mem_of_getElem? (i := 578) (by decide +kernel)) (by decide +kernel)
theorem wd_585 : Cond.methodLink R_X 124 ⟨"java/lang/IllegalArgumentException", "<init>", "(Ljava/lang/String;)V"⟩ ∈ gd_tb := gd_in (List.mem_of_getElem? (i := 585) (by decide +kernel)) (by decide +kernel)
theorem wd_586 : Cond.instanceMethod ⟨"java/lang/IllegalArgumentException", "<init>", "(Ljava/lang/String;)V"⟩ ∈ gd_tb := gd_in (List.mem_of_getElem? (i := 586) (by decide +kernel)) (by decide +kernel)
theorem wd_587 : Cond.code ⟨"java/lang/IllegalArgumentException", "<init>", "(Ljava/lang/String;)V"⟩ prog_10_method_2_code 2 none ∈ gd_tb := gd_in (List.mem_of_getElem? (i := 587) (by decide +kernel)) (by decide +kernel)
theorem wd_588 : Cond.methodLink "java/lang/IllegalArgumentException" 7 ⟨"java/lang/RuntimeException", "<init>", "(Ljava/lang/String;)V"⟩ ∈ gd_tb := gd_in (List.mem_of_getElem? (i := 588) (by decide +kernel)) (by decide +kernel)
theorem wd_591 : Cond.methodLink R_X 125 y_B_beliefOf ∈ gd_tb := gd_in (List.mem_of_getElem? (i := 591) (by decide +kernel)) (by decide +kernel)
theorem wd_592 : Cond.classLink R_L 24 R_M ∈ gd_tb := gd_in (List.mem_of_getElem? (i := 592) (by decide +kernel)) (by decide +kernel)
theorem wd_593 : Cond.instantiable R_M 26 ∈ gd_tb := gd_in (List.mem_of_getElem? (i := 593) (by decide +kernel)) (by decide +kernel)
theorem wd_594 : Cond.methodLink R_L 26 y_M_init ∈ gd_tb := gd_in (List.mem_of_getElem? (i := 594) (by decide +kernel)) (by decide +kernel)
theorem wd_595 : Cond.instanceMethod y_M_init ∈ gd_tb := gd_in (List.mem_of_getElem? (i := 595) (by decide +kernel)) (by decide +kernel)
theorem wd_596 : Cond.code y_M_init b_M_init 1 none ∈ gd_tb := gd_in (List.mem_of_getElem? (i := 596) (by decide +kernel)) (by decide +kernel)
theorem wd_597 : Cond.methodLink R_M 1 ⟨"java/lang/Object", "<init>", "()V"⟩ ∈ gd_tb := gd_in (List.mem_of_getElem? (i := 597) (by decide +kernel)) (by decide +kernel)
theorem wd_598 : Cond.fieldLink R_M 51 R_M "thrown" "I" ∈ gd_tb := gd_in (List.mem_of_getElem? (i := 598) (by decide +kernel)) (by decide +kernel)
theorem wd_599 : Cond.fieldLink R_M 55 R_M "points" "I" ∈ gd_tb := gd_in (List.mem_of_getElem? (i := 599) (by decide +kernel)) (by decide +kernel)
theorem wd_600 : Cond.fieldLink R_M 58 R_M "edges" "I" ∈ gd_tb := gd_in (List.mem_of_getElem? (i := 600) (by decide +kernel)) (by decide +kernel)
theorem wd_601 : Cond.fieldLink R_M 69 R_M "fired" "I" ∈ gd_tb := gd_in (List.mem_of_getElem? (i := 601) (by decide +kernel)) (by decide +kernel)
theorem wd_602 : Cond.fieldLink R_M 7 R_M "isBoundary" "[Z" ∈ gd_tb := gd_in (List.mem_of_getElem? (i := 602) (by decide +kernel)) (by decide +kernel)
theorem wd_603 : Cond.fieldLink R_M 13 R_M "end" "[I" ∈ gd_tb := gd_in (List.mem_of_getElem? (i := 603) (by decide +kernel)) (by decide +kernel)
theorem wd_604 : Cond.fieldLink R_M 17 R_M "length" "[I" ∈ gd_tb := gd_in (List.mem_of_getElem? (i := 604) (by decide +kernel)) (by decide +kernel)
theorem wd_605 : Cond.fieldLink R_M 100 R_M "isGrown" "Z" ∈ gd_tb := gd_in (List.mem_of_getElem? (i := 605) (by decide +kernel)) (by decide +kernel)
theorem wd_606 : Cond.fieldLink R_M 103 R_M "grownPoints" "I" ∈ gd_tb := gd_in (List.mem_of_getElem? (i := 606) (by decide +kernel)) (by decide +kernel)
theorem wd_607 : Cond.fieldLink R_M 106 R_M "grownEdges" "I" ∈ gd_tb := gd_in (List.mem_of_getElem? (i := 607) (by decide +kernel)) (by decide +kernel)
theorem wd_608 : Cond.fieldLink R_M 72 R_M "rounds" "I" ∈ gd_tb := gd_in (List.mem_of_getElem? (i := 608) (by decide +kernel)) (by decide +kernel)
theorem wd_609 : Cond.fieldLink R_M 75 R_M "branches" "J" ∈ gd_tb := gd_in (List.mem_of_getElem? (i := 609) (by decide +kernel)) (by decide +kernel)
theorem wd_610 : Cond.fieldLink R_M 79 R_M "fix" "J" ∈ gd_tb := gd_in (List.mem_of_getElem? (i := 610) (by decide +kernel)) (by decide +kernel)
theorem wd_611 : Cond.fieldLink R_M 20 R_M "label" "[I" ∈ gd_tb := gd_in (List.mem_of_getElem? (i := 611) (by decide +kernel)) (by decide +kernel)
theorem wd_612 : Cond.fieldLink R_M 23 R_M "size" "[I" ∈ gd_tb := gd_in (List.mem_of_getElem? (i := 612) (by decide +kernel)) (by decide +kernel)
theorem wd_613 : Cond.fieldLink R_M 26 R_M "isOdd" "[Z" ∈ gd_tb := gd_in (List.mem_of_getElem? (i := 613) (by decide +kernel)) (by decide +kernel)
theorem wd_614 : Cond.fieldLink R_M 29 R_M "isFull" "[Z" ∈ gd_tb := gd_in (List.mem_of_getElem? (i := 614) (by decide +kernel)) (by decide +kernel)
theorem wd_615 : Cond.fieldLink R_M 32 R_M "isWithRoot" "[Z" ∈ gd_tb := gd_in (List.mem_of_getElem? (i := 615) (by decide +kernel)) (by decide +kernel)
theorem wd_616 : Cond.fieldLink R_M 61 R_M "isBelieved" "Z" ∈ gd_tb := gd_in (List.mem_of_getElem? (i := 616) (by decide +kernel)) (by decide +kernel)
theorem wd_617 : Cond.fieldLink R_M 35 R_M "toEdge" "[I" ∈ gd_tb := gd_in (List.mem_of_getElem? (i := 617) (by decide +kernel)) (by decide +kernel)
theorem wd_618 : Cond.fieldLink R_M 38 R_M "toPoint" "[I" ∈ gd_tb := gd_in (List.mem_of_getElem? (i := 618) (by decide +kernel)) (by decide +kernel)
theorem wd_619 : Cond.fieldLink R_M 41 R_M "rowOf" "[I" ∈ gd_tb := gd_in (List.mem_of_getElem? (i := 619) (by decide +kernel)) (by decide +kernel)
theorem wd_620 : Cond.fieldLink R_M 44 R_M "madeOf" "[J" ∈ gd_tb := gd_in (List.mem_of_getElem? (i := 620) (by decide +kernel)) (by decide +kernel)
theorem wd_621 : Cond.fieldLink R_M 48 R_M "isTaken" "[Z" ∈ gd_tb := gd_in (List.mem_of_getElem? (i := 621) (by decide +kernel)) (by decide +kernel)
theorem wd_622 : Cond.fieldLink R_M 152 R_M "chosen" "I" ∈ gd_tb := gd_in (List.mem_of_getElem? (i := 622) (by decide +kernel)) (by decide +kernel)
theorem wd_623 : Cond.fieldLink R_M 146 R_M "made" "J" ∈ gd_tb := gd_in (List.mem_of_getElem? (i := 623) (by decide +kernel)) (by decide +kernel)
theorem wd_677 : Cond.arrayClass .boolean ∈ gd_tb := gd_in (List.mem_of_getElem? (i := 677) (by decide +kernel)) (by decide +kernel)
theorem wd_678 : Cond.methodLink R_L 48 y_M_thrown ∈ gd_tb := gd_in (List.mem_of_getElem? (i := 678) (by decide +kernel)) (by decide +kernel)
theorem wd_679 : Cond.instanceMethod y_M_thrown ∈ gd_tb := gd_in (List.mem_of_getElem? (i := 679) (by decide +kernel)) (by decide +kernel)
theorem wd_680 : Cond.selects R_M y_M_thrown y_M_thrown ∈ gd_tb := gd_in (List.mem_of_getElem? (i := 680) (by decide +kernel)) (by decide +kernel)
theorem wd_681 : Cond.code y_M_thrown b_M_thrown 1 (some .int) ∈ gd_tb := gd_in (List.mem_of_getElem? (i := 681) (by decide +kernel)) (by decide +kernel)
theorem wd_682 : Cond.methodLink R_L 31 y_M_point ∈ gd_tb := gd_in (List.mem_of_getElem? (i := 682) (by decide +kernel)) (by decide +kernel)
theorem wd_683 : Cond.instanceMethod y_M_point ∈ gd_tb := gd_in (List.mem_of_getElem? (i := 683) (by decide +kernel)) (by decide +kernel)
theorem wd_684 : Cond.selects R_M y_M_point y_M_point ∈ gd_tb := gd_in (List.mem_of_getElem? (i := 684) (by decide +kernel)) (by decide +kernel)
theorem wd_685 : Cond.code y_M_point b_M_point 2 (some .int) ∈ gd_tb := gd_in (List.mem_of_getElem? (i := 685) (by decide +kernel)) (by decide +kernel)
theorem wd_686 : Cond.methodLink R_L 36 y_M_edge ∈ gd_tb := gd_in (List.mem_of_getElem? (i := 686) (by decide +kernel)) (by decide +kernel)
theorem wd_687 : Cond.instanceMethod y_M_edge ∈ gd_tb := gd_in (List.mem_of_getElem? (i := 687) (by decide +kernel)) (by decide +kernel)
theorem wd_688 : Cond.selects R_M y_M_edge y_M_edge ∈ gd_tb := gd_in (List.mem_of_getElem? (i := 688) (by decide +kernel)) (by decide +kernel)
theorem wd_689 : Cond.code y_M_edge b_M_edge 4 (some .int) ∈ gd_tb := gd_in (List.mem_of_getElem? (i := 689) (by decide +kernel)) (by decide +kernel)
theorem wd_690 : Cond.methodLink R_M 65 y_M_isPoint ∈ gd_tb := gd_in (List.mem_of_getElem? (i := 690) (by decide +kernel)) (by decide +kernel)
theorem wd_692 : Cond.instanceMethod y_M_isPoint ∈ gd_tb := gd_in (List.mem_of_getElem? (i := 692) (by decide +kernel)) (by decide +kernel)
theorem wd_693 : Cond.code y_M_isPoint b_M_isPoint 2 (some .boolean) ∈ gd_tb := gd_in (List.mem_of_getElem? (i := 693) (by decide +kernel)) (by decide +kernel)
theorem wd_694 : Cond.methodLink R_L 41 y_M_fire ∈ gd_tb := gd_in (List.mem_of_getElem? (i := 694) (by decide +kernel)) (by decide +kernel)
theorem wd_695 : Cond.instanceMethod y_M_fire ∈ gd_tb := gd_in (List.mem_of_getElem? (i := 695) (by decide +kernel)) (by decide +kernel)
theorem wd_696 : Cond.selects R_M y_M_fire y_M_fire ∈ gd_tb := gd_in (List.mem_of_getElem? (i := 696) (by decide +kernel)) (by decide +kernel)
theorem wd_697 : Cond.code y_M_fire b_M_fire 3 (some .boolean) ∈ gd_tb := gd_in (List.mem_of_getElem? (i := 697) (by decide +kernel)) (by decide +kernel)
theorem wd_698 : Cond.methodLink R_L 47 y_M_grow ∈ gd_tb := gd_in (List.mem_of_getElem? (i := 698) (by decide +kernel)) (by decide +kernel)
theorem wd_699 : Cond.instanceMethod y_M_grow ∈ gd_tb := gd_in (List.mem_of_getElem? (i := 699) (by decide +kernel)) (by decide +kernel)
theorem wd_700 : Cond.selects R_M y_M_grow y_M_grow ∈ gd_tb := gd_in (List.mem_of_getElem? (i := 700) (by decide +kernel)) (by decide +kernel)
theorem wd_701 : Cond.code y_M_grow b_M_grow 3 (some .int) ∈ gd_tb := gd_in (List.mem_of_getElem? (i := 701) (by decide +kernel)) (by decide +kernel)
theorem wd_702 : Cond.methodLink R_M 97 y_M_growAll ∈ gd_tb := gd_in (List.mem_of_getElem? (i := 702) (by decide +kernel)) (by decide +kernel)
theorem wd_704 : Cond.instanceMethod y_M_growAll ∈ gd_tb := gd_in (List.mem_of_getElem? (i := 704) (by decide +kernel)) (by decide +kernel)
theorem wd_705 : Cond.code y_M_growAll b_M_growAll 4 (some .boolean) ∈ gd_tb := gd_in (List.mem_of_getElem? (i := 705) (by decide +kernel)) (by decide +kernel)
theorem wd_706 : Cond.methodLink R_M 82 y_M_findOdd ∈ gd_tb := gd_in (List.mem_of_getElem? (i := 706) (by decide +kernel)) (by decide +kernel)
theorem wd_708 : Cond.instanceMethod y_M_findOdd ∈ gd_tb := gd_in (List.mem_of_getElem? (i := 708) (by decide +kernel)) (by decide +kernel)
theorem wd_709 : Cond.code y_M_findOdd b_M_findOdd 7 (some .boolean) ∈ gd_tb := gd_in (List.mem_of_getElem? (i := 709) (by decide +kernel)) (by decide +kernel)
theorem wd_710 : Cond.methodLink R_M 86 y_M_growEdges ∈ gd_tb := gd_in (List.mem_of_getElem? (i := 710) (by decide +kernel)) (by decide +kernel)
theorem wd_712 : Cond.instanceMethod y_M_growEdges ∈ gd_tb := gd_in (List.mem_of_getElem? (i := 712) (by decide +kernel)) (by decide +kernel)
theorem wd_713 : Cond.code y_M_growEdges b_M_growEdges 4 (some .boolean) ∈ gd_tb := gd_in (List.mem_of_getElem? (i := 713) (by decide +kernel)) (by decide +kernel)
theorem wd_714 : Cond.methodLink R_M 89 y_M_merge ∈ gd_tb := gd_in (List.mem_of_getElem? (i := 714) (by decide +kernel)) (by decide +kernel)
theorem wd_716 : Cond.instanceMethod y_M_merge ∈ gd_tb := gd_in (List.mem_of_getElem? (i := 716) (by decide +kernel)) (by decide +kernel)
theorem wd_717 : Cond.code y_M_merge b_M_merge 6 none ∈ gd_tb := gd_in (List.mem_of_getElem? (i := 717) (by decide +kernel)) (by decide +kernel)
theorem wd_718 : Cond.methodLink R_M 109 y_M_raise ∈ gd_tb := gd_in (List.mem_of_getElem? (i := 718) (by decide +kernel)) (by decide +kernel)
theorem wd_720 : Cond.instanceMethod y_M_raise ∈ gd_tb := gd_in (List.mem_of_getElem? (i := 720) (by decide +kernel)) (by decide +kernel)
theorem wd_721 : Cond.code y_M_raise b_M_raise 2 (some .int) ∈ gd_tb := gd_in (List.mem_of_getElem? (i := 721) (by decide +kernel)) (by decide +kernel)
theorem wd_722 : Cond.methodLink R_M 112 y_M_isOfFix ∈ gd_tb := gd_in (List.mem_of_getElem? (i := 722) (by decide +kernel)) (by decide +kernel)
theorem wd_724 : Cond.instanceMethod y_M_isOfFix ∈ gd_tb := gd_in (List.mem_of_getElem? (i := 724) (by decide +kernel)) (by decide +kernel)
theorem wd_725 : Cond.code y_M_isOfFix b_M_isOfFix 6 (some .boolean) ∈ gd_tb := gd_in (List.mem_of_getElem? (i := 725) (by decide +kernel)) (by decide +kernel)
theorem wd_726 : Cond.methodLink R_M 93 y_M_rootOf ∈ gd_tb := gd_in (List.mem_of_getElem? (i := 726) (by decide +kernel)) (by decide +kernel)
theorem wd_728 : Cond.instanceMethod y_M_rootOf ∈ gd_tb := gd_in (List.mem_of_getElem? (i := 728) (by decide +kernel)) (by decide +kernel)
theorem wd_729 : Cond.code y_M_rootOf b_M_rootOf 3 (some .int) ∈ gd_tb := gd_in (List.mem_of_getElem? (i := 729) (by decide +kernel)) (by decide +kernel)
theorem wd_730 : Cond.methodLink R_L 55 y_M_cluster ∈ gd_tb := gd_in (List.mem_of_getElem? (i := 730) (by decide +kernel)) (by decide +kernel)
theorem wd_731 : Cond.instanceMethod y_M_cluster ∈ gd_tb := gd_in (List.mem_of_getElem? (i := 731) (by decide +kernel)) (by decide +kernel)
theorem wd_732 : Cond.selects R_M y_M_cluster y_M_cluster ∈ gd_tb := gd_in (List.mem_of_getElem? (i := 732) (by decide +kernel)) (by decide +kernel)
theorem wd_733 : Cond.code y_M_cluster b_M_cluster 2 (some .int) ∈ gd_tb := gd_in (List.mem_of_getElem? (i := 733) (by decide +kernel)) (by decide +kernel)
theorem wd_734 : Cond.methodLink R_L 59 y_M_size ∈ gd_tb := gd_in (List.mem_of_getElem? (i := 734) (by decide +kernel)) (by decide +kernel)
theorem wd_735 : Cond.instanceMethod y_M_size ∈ gd_tb := gd_in (List.mem_of_getElem? (i := 735) (by decide +kernel)) (by decide +kernel)
theorem wd_736 : Cond.selects R_M y_M_size y_M_size ∈ gd_tb := gd_in (List.mem_of_getElem? (i := 736) (by decide +kernel)) (by decide +kernel)
theorem wd_737 : Cond.code y_M_size b_M_size 2 (some .int) ∈ gd_tb := gd_in (List.mem_of_getElem? (i := 737) (by decide +kernel)) (by decide +kernel)
theorem wd_738 : Cond.methodLink R_L 64 y_M_grown ∈ gd_tb := gd_in (List.mem_of_getElem? (i := 738) (by decide +kernel)) (by decide +kernel)
theorem wd_739 : Cond.instanceMethod y_M_grown ∈ gd_tb := gd_in (List.mem_of_getElem? (i := 739) (by decide +kernel)) (by decide +kernel)
theorem wd_740 : Cond.selects R_M y_M_grown y_M_grown ∈ gd_tb := gd_in (List.mem_of_getElem? (i := 740) (by decide +kernel)) (by decide +kernel)
theorem wd_741 : Cond.code y_M_grown b_M_grown 2 (some .long) ∈ gd_tb := gd_in (List.mem_of_getElem? (i := 741) (by decide +kernel)) (by decide +kernel)
theorem wd_742 : Cond.constantLong R_M 115 (-1) ∈ gd_tb := gd_in (List.mem_of_getElem? (i := 742) (by decide +kernel)) (by decide +kernel)
theorem wd_743 : Cond.methodLink R_L 68 y_M_believe ∈ gd_tb := gd_in (List.mem_of_getElem? (i := 743) (by decide +kernel)) (by decide +kernel)
theorem wd_744 : Cond.instanceMethod y_M_believe ∈ gd_tb := gd_in (List.mem_of_getElem? (i := 744) (by decide +kernel)) (by decide +kernel)
theorem wd_745 : Cond.selects R_M y_M_believe y_M_believe ∈ gd_tb := gd_in (List.mem_of_getElem? (i := 745) (by decide +kernel)) (by decide +kernel)
theorem wd_746 : Cond.code y_M_believe b_M_believe 3 (some .int) ∈ gd_tb := gd_in (List.mem_of_getElem? (i := 746) (by decide +kernel)) (by decide +kernel)
theorem wd_747 : Cond.methodLink R_M 129 y_M_sendToPoints ∈ gd_tb := gd_in (List.mem_of_getElem? (i := 747) (by decide +kernel)) (by decide +kernel)
theorem wd_749 : Cond.instanceMethod y_M_sendToPoints ∈ gd_tb := gd_in (List.mem_of_getElem? (i := 749) (by decide +kernel)) (by decide +kernel)
theorem wd_750 : Cond.code y_M_sendToPoints b_M_sendToPoints 2 none ∈ gd_tb := gd_in (List.mem_of_getElem? (i := 750) (by decide +kernel)) (by decide +kernel)
theorem wd_751 : Cond.methodLink R_M 117 y_M_isInner ∈ gd_tb := gd_in (List.mem_of_getElem? (i := 751) (by decide +kernel)) (by decide +kernel)
theorem wd_753 : Cond.instanceMethod y_M_isInner ∈ gd_tb := gd_in (List.mem_of_getElem? (i := 753) (by decide +kernel)) (by decide +kernel)
theorem wd_754 : Cond.code y_M_isInner b_M_isInner 2 (some .boolean) ∈ gd_tb := gd_in (List.mem_of_getElem? (i := 754) (by decide +kernel)) (by decide +kernel)
theorem wd_755 : Cond.methodLink R_M 120 y_M_within ∈ gd_tb := gd_in (List.mem_of_getElem? (i := 755) (by decide +kernel)) (by decide +kernel)
theorem wd_756 : Cond.static y_M_within ∈ gd_tb := gd_in (List.mem_of_getElem? (i := 756) (by decide +kernel)) (by decide +kernel)
theorem wd_757 : Cond.code y_M_within b_M_within 1 (some .int) ∈ gd_tb := gd_in (List.mem_of_getElem? (i := 757) (by decide +kernel)) (by decide +kernel)
theorem wd_758 : Cond.methodLink R_M 132 y_M_sendToEdges ∈ gd_tb := gd_in (List.mem_of_getElem? (i := 758) (by decide +kernel)) (by decide +kernel)
theorem wd_760 : Cond.instanceMethod y_M_sendToEdges ∈ gd_tb := gd_in (List.mem_of_getElem? (i := 760) (by decide +kernel)) (by decide +kernel)
theorem wd_761 : Cond.code y_M_sendToEdges b_M_sendToEdges 2 none ∈ gd_tb := gd_in (List.mem_of_getElem? (i := 761) (by decide +kernel)) (by decide +kernel)
theorem wd_762 : Cond.methodLink R_M 123 y_M_answerOf ∈ gd_tb := gd_in (List.mem_of_getElem? (i := 762) (by decide +kernel)) (by decide +kernel)
theorem wd_764 : Cond.instanceMethod y_M_answerOf ∈ gd_tb := gd_in (List.mem_of_getElem? (i := 764) (by decide +kernel)) (by decide +kernel)
theorem wd_765 : Cond.code y_M_answerOf b_M_answerOf 7 (some .int) ∈ gd_tb := gd_in (List.mem_of_getElem? (i := 765) (by decide +kernel)) (by decide +kernel)
theorem wd_766 : Cond.methodLink R_M 135 y_M_guessed ∈ gd_tb := gd_in (List.mem_of_getElem? (i := 766) (by decide +kernel)) (by decide +kernel)
theorem wd_768 : Cond.instanceMethod y_M_guessed ∈ gd_tb := gd_in (List.mem_of_getElem? (i := 768) (by decide +kernel)) (by decide +kernel)
theorem wd_769 : Cond.code y_M_guessed b_M_guessed 4 (some .long) ∈ gd_tb := gd_in (List.mem_of_getElem? (i := 769) (by decide +kernel)) (by decide +kernel)
theorem wd_770 : Cond.methodLink R_M 126 y_M_belief ∈ gd_tb := gd_in (List.mem_of_getElem? (i := 770) (by decide +kernel)) (by decide +kernel)
theorem wd_772 : Cond.instanceMethod y_M_belief ∈ gd_tb := gd_in (List.mem_of_getElem? (i := 772) (by decide +kernel)) (by decide +kernel)
theorem wd_773 : Cond.code y_M_belief b_M_belief 2 (some .int) ∈ gd_tb := gd_in (List.mem_of_getElem? (i := 773) (by decide +kernel)) (by decide +kernel)
theorem wd_774 : Cond.methodLink R_M 139 y_M_syndromeOf ∈ gd_tb := gd_in (List.mem_of_getElem? (i := 774) (by decide +kernel)) (by decide +kernel)
theorem wd_776 : Cond.instanceMethod y_M_syndromeOf ∈ gd_tb := gd_in (List.mem_of_getElem? (i := 776) (by decide +kernel)) (by decide +kernel)
theorem wd_777 : Cond.code y_M_syndromeOf b_M_syndromeOf 5 (some .int) ∈ gd_tb := gd_in (List.mem_of_getElem? (i := 777) (by decide +kernel)) (by decide +kernel)
theorem wd_778 : Cond.methodLink R_L 72 y_M_sent ∈ gd_tb := gd_in (List.mem_of_getElem? (i := 778) (by decide +kernel)) (by decide +kernel)
theorem wd_779 : Cond.instanceMethod y_M_sent ∈ gd_tb := gd_in (List.mem_of_getElem? (i := 779) (by decide +kernel)) (by decide +kernel)
theorem wd_780 : Cond.selects R_M y_M_sent y_M_sent ∈ gd_tb := gd_in (List.mem_of_getElem? (i := 780) (by decide +kernel)) (by decide +kernel)
theorem wd_781 : Cond.code y_M_sent b_M_sent 3 (some .int) ∈ gd_tb := gd_in (List.mem_of_getElem? (i := 781) (by decide +kernel)) (by decide +kernel)
theorem wd_782 : Cond.methodLink R_M 143 y_M_isEdge ∈ gd_tb := gd_in (List.mem_of_getElem? (i := 782) (by decide +kernel)) (by decide +kernel)
theorem wd_784 : Cond.instanceMethod y_M_isEdge ∈ gd_tb := gd_in (List.mem_of_getElem? (i := 784) (by decide +kernel)) (by decide +kernel)
theorem wd_785 : Cond.code y_M_isEdge b_M_isEdge 2 (some .boolean) ∈ gd_tb := gd_in (List.mem_of_getElem? (i := 785) (by decide +kernel)) (by decide +kernel)
theorem wd_786 : Cond.methodLink R_L 77 y_M_guess ∈ gd_tb := gd_in (List.mem_of_getElem? (i := 786) (by decide +kernel)) (by decide +kernel)
theorem wd_787 : Cond.instanceMethod y_M_guess ∈ gd_tb := gd_in (List.mem_of_getElem? (i := 787) (by decide +kernel)) (by decide +kernel)
theorem wd_788 : Cond.selects R_M y_M_guess y_M_guess ∈ gd_tb := gd_in (List.mem_of_getElem? (i := 788) (by decide +kernel)) (by decide +kernel)
theorem wd_789 : Cond.code y_M_guess b_M_guess 1 (some .long) ∈ gd_tb := gd_in (List.mem_of_getElem? (i := 789) (by decide +kernel)) (by decide +kernel)
theorem wd_790 : Cond.methodLink R_L 81 y_M_answer ∈ gd_tb := gd_in (List.mem_of_getElem? (i := 790) (by decide +kernel)) (by decide +kernel)
theorem wd_791 : Cond.instanceMethod y_M_answer ∈ gd_tb := gd_in (List.mem_of_getElem? (i := 791) (by decide +kernel)) (by decide +kernel)
theorem wd_792 : Cond.selects R_M y_M_answer y_M_answer ∈ gd_tb := gd_in (List.mem_of_getElem? (i := 792) (by decide +kernel)) (by decide +kernel)
theorem wd_793 : Cond.code y_M_answer b_M_answer 1 (some .long) ∈ gd_tb := gd_in (List.mem_of_getElem? (i := 793) (by decide +kernel)) (by decide +kernel)
theorem wd_794 : Cond.methodLink R_M 165 y_M_choose ∈ gd_tb := gd_in (List.mem_of_getElem? (i := 794) (by decide +kernel)) (by decide +kernel)
theorem wd_796 : Cond.instanceMethod y_M_choose ∈ gd_tb := gd_in (List.mem_of_getElem? (i := 796) (by decide +kernel)) (by decide +kernel)
theorem wd_797 : Cond.code y_M_choose b_M_choose 4 none ∈ gd_tb := gd_in (List.mem_of_getElem? (i := 797) (by decide +kernel)) (by decide +kernel)
theorem wd_798 : Cond.methodLink R_M 155 y_M_nextEdge ∈ gd_tb := gd_in (List.mem_of_getElem? (i := 798) (by decide +kernel)) (by decide +kernel)
theorem wd_800 : Cond.instanceMethod y_M_nextEdge ∈ gd_tb := gd_in (List.mem_of_getElem? (i := 800) (by decide +kernel)) (by decide +kernel)
theorem wd_801 : Cond.code y_M_nextEdge b_M_nextEdge 3 (some .int) ∈ gd_tb := gd_in (List.mem_of_getElem? (i := 801) (by decide +kernel)) (by decide +kernel)
theorem wd_802 : Cond.methodLink R_M 149 y_M_orderOf ∈ gd_tb := gd_in (List.mem_of_getElem? (i := 802) (by decide +kernel)) (by decide +kernel)
theorem wd_804 : Cond.instanceMethod y_M_orderOf ∈ gd_tb := gd_in (List.mem_of_getElem? (i := 804) (by decide +kernel)) (by decide +kernel)
theorem wd_805 : Cond.code y_M_orderOf b_M_orderOf 2 (some .int) ∈ gd_tb := gd_in (List.mem_of_getElem? (i := 805) (by decide +kernel)) (by decide +kernel)
theorem wd_806 : Cond.methodLink R_M 159 y_M_left ∈ gd_tb := gd_in (List.mem_of_getElem? (i := 806) (by decide +kernel)) (by decide +kernel)
theorem wd_808 : Cond.instanceMethod y_M_left ∈ gd_tb := gd_in (List.mem_of_getElem? (i := 808) (by decide +kernel)) (by decide +kernel)
theorem wd_809 : Cond.code y_M_left b_M_left 4 (some .int) ∈ gd_tb := gd_in (List.mem_of_getElem? (i := 809) (by decide +kernel)) (by decide +kernel)
theorem wd_810 : Cond.methodLink R_M 162 y_M_highest ∈ gd_tb := gd_in (List.mem_of_getElem? (i := 810) (by decide +kernel)) (by decide +kernel)
theorem wd_811 : Cond.static y_M_highest ∈ gd_tb := gd_in (List.mem_of_getElem? (i := 811) (by decide +kernel)) (by decide +kernel)
theorem wd_812 : Cond.code y_M_highest b_M_highest 2 (some .int) ∈ gd_tb := gd_in (List.mem_of_getElem? (i := 812) (by decide +kernel)) (by decide +kernel)
theorem wd_813 : Cond.methodLink R_L 85 y_M_chosen ∈ gd_tb := gd_in (List.mem_of_getElem? (i := 813) (by decide +kernel)) (by decide +kernel)
theorem wd_814 : Cond.instanceMethod y_M_chosen ∈ gd_tb := gd_in (List.mem_of_getElem? (i := 814) (by decide +kernel)) (by decide +kernel)
theorem wd_815 : Cond.selects R_M y_M_chosen y_M_chosen ∈ gd_tb := gd_in (List.mem_of_getElem? (i := 815) (by decide +kernel)) (by decide +kernel)
theorem wd_816 : Cond.code y_M_chosen b_M_chosen 1 (some .int) ∈ gd_tb := gd_in (List.mem_of_getElem? (i := 816) (by decide +kernel)) (by decide +kernel)
theorem wd_817 : Cond.methodLink R_L 92 y_M_syndrome ∈ gd_tb := gd_in (List.mem_of_getElem? (i := 817) (by decide +kernel)) (by decide +kernel)
theorem wd_818 : Cond.instanceMethod y_M_syndrome ∈ gd_tb := gd_in (List.mem_of_getElem? (i := 818) (by decide +kernel)) (by decide +kernel)
theorem wd_819 : Cond.selects R_M y_M_syndrome y_M_syndrome ∈ gd_tb := gd_in (List.mem_of_getElem? (i := 819) (by decide +kernel)) (by decide +kernel)
theorem wd_820 : Cond.code y_M_syndrome b_M_syndrome 3 (some .int) ∈ gd_tb := gd_in (List.mem_of_getElem? (i := 820) (by decide +kernel)) (by decide +kernel)
theorem wd_821 : Cond.methodLink R_L 96 y_M_total ∈ gd_tb := gd_in (List.mem_of_getElem? (i := 821) (by decide +kernel)) (by decide +kernel)
theorem wd_822 : Cond.instanceMethod y_M_total ∈ gd_tb := gd_in (List.mem_of_getElem? (i := 822) (by decide +kernel)) (by decide +kernel)
theorem wd_823 : Cond.selects R_M y_M_total y_M_total ∈ gd_tb := gd_in (List.mem_of_getElem? (i := 823) (by decide +kernel)) (by decide +kernel)
theorem wd_824 : Cond.code y_M_total b_M_total 4 (some .int) ∈ gd_tb := gd_in (List.mem_of_getElem? (i := 824) (by decide +kernel)) (by decide +kernel)
theorem wd_825 : Cond.constantLong R_L 86 (4294967295) ∈ gd_tb := gd_in (List.mem_of_getElem? (i := 825) (by decide +kernel)) (by decide +kernel)
theorem cb_X_init {R : Room} {s : State} {args : Array Value} {own : String} {index : Nat} {rm : Room} (hts : ∀ w ∈ gd_tb, w.before args s = true) (hl : Cond.methodLink own index y_X_init ∈ gd_tb) (hR : rm.frames + 1 ≤ R.frames ∧ 8 + (1 + 11) + rm.locals ≤ R.locals) : CallB R s args own index y_X_init b_X_init 1 none w_X_init rm rm.cells rm.slots 0 := callB_of 0 hts (gd_gi wd_60) rfl rfl rfl (hts _ wd_41) (hts _ hl) (by decide +kernel) hR
theorem cb_X_point {R : Room} {s : State} {args : Array Value} {own : String} {index : Nat} {rm : Room} (hts : ∀ w ∈ gd_tb, w.before args s = true) (hl : Cond.methodLink own index y_X_point ∈ gd_tb) (hR : rm.frames + 1 ≤ R.frames ∧ 8 + (2 + 11) + rm.locals ≤ R.locals) : CallB R s args own index y_X_point b_X_point 2 (some .int) w_X_point rm rm.cells rm.slots 1 := callB_of 1 hts (gd_gi wd_249) rfl rfl rfl (hts _ wd_41) (hts _ hl) (by decide +kernel) hR
theorem cb_X_edge {R : Room} {s : State} {args : Array Value} {own : String} {index : Nat} {rm : Room} (hts : ∀ w ∈ gd_tb, w.before args s = true) (hl : Cond.methodLink own index y_X_edge ∈ gd_tb) (hR : rm.frames + 1 ≤ R.frames ∧ 8 + (4 + 11) + rm.locals ≤ R.locals) : CallB R s args own index y_X_edge b_X_edge 4 (some .int) w_X_edge rm rm.cells rm.slots 3 := callB_of 3 hts (gd_gi wd_261) rfl rfl rfl (hts _ wd_41) (hts _ hl) (by decide +kernel) hR
theorem cb_X_fire {R : Room} {s : State} {args : Array Value} {own : String} {index : Nat} {rm : Room} (hts : ∀ w ∈ gd_tb, w.before args s = true) (hl : Cond.methodLink own index y_X_fire ∈ gd_tb) (hR : rm.frames + 1 ≤ R.frames ∧ 8 + (3 + 11) + rm.locals ≤ R.locals) : CallB R s args own index y_X_fire b_X_fire 3 (some .boolean) w_X_fire rm rm.cells rm.slots 2 := callB_of 2 hts (gd_gi wd_281) rfl rfl rfl (hts _ wd_41) (hts _ hl) (by decide +kernel) hR
theorem cb_X_grow {R : Room} {s : State} {args : Array Value} {own : String} {index : Nat} {rm : Room} (hts : ∀ w ∈ gd_tb, w.before args s = true) (hl : Cond.methodLink own index y_X_grow ∈ gd_tb) (hR : rm.frames + 1 ≤ R.frames ∧ 8 + (1 + 11) + rm.locals ≤ R.locals) : CallB R s args own index y_X_grow b_X_grow 1 (some .int) w_X_grow rm rm.cells rm.slots 0 := callB_of 0 hts (gd_gi wd_417) rfl rfl rfl (hts _ wd_41) (hts _ hl) (by decide +kernel) hR
theorem cb_X_cluster {R : Room} {s : State} {args : Array Value} {own : String} {index : Nat} {rm : Room} (hts : ∀ w ∈ gd_tb, w.before args s = true) (hl : Cond.methodLink own index y_X_cluster ∈ gd_tb) (hR : rm.frames + 1 ≤ R.frames ∧ 8 + (2 + 11) + rm.locals ≤ R.locals) : CallB R s args own index y_X_cluster b_X_cluster 2 (some .int) w_X_cluster rm rm.cells rm.slots 1 := callB_of 1 hts (gd_gi wd_291) rfl rfl rfl (hts _ wd_41) (hts _ hl) (by decide +kernel) hR
theorem cb_X_size {R : Room} {s : State} {args : Array Value} {own : String} {index : Nat} {rm : Room} (hts : ∀ w ∈ gd_tb, w.before args s = true) (hl : Cond.methodLink own index y_X_size ∈ gd_tb) (hR : rm.frames + 1 ≤ R.frames ∧ 8 + (2 + 11) + rm.locals ≤ R.locals) : CallB R s args own index y_X_size b_X_size 2 (some .int) w_X_size rm rm.cells rm.slots 1 := callB_of 1 hts (gd_gi wd_295) rfl rfl rfl (hts _ wd_41) (hts _ hl) (by decide +kernel) hR
theorem cb_X_grown {R : Room} {s : State} {args : Array Value} {own : String} {index : Nat} {rm : Room} (hts : ∀ w ∈ gd_tb, w.before args s = true) (hl : Cond.methodLink own index y_X_grown ∈ gd_tb) (hR : rm.frames + 1 ≤ R.frames ∧ 8 + (2 + 11) + rm.locals ≤ R.locals) : CallB R s args own index y_X_grown b_X_grown 2 (some .long) w_X_grown rm rm.cells rm.slots 1 := callB_of 1 hts (gd_gi wd_299) rfl rfl rfl (hts _ wd_41) (hts _ hl) (by decide +kernel) hR
theorem cb_X_believe {R : Room} {s : State} {args : Array Value} {own : String} {index : Nat} {rm : Room} (hts : ∀ w ∈ gd_tb, w.before args s = true) (hl : Cond.methodLink own index y_X_believe ∈ gd_tb) (hR : rm.frames + 1 ≤ R.frames ∧ 8 + (2 + 11) + rm.locals ≤ R.locals) : CallB R s args own index y_X_believe b_X_believe 2 (some .int) w_X_believe rm rm.cells rm.slots 1 := callB_of 1 hts (gd_gi wd_304) rfl rfl rfl (hts _ wd_41) (hts _ hl) (by decide +kernel) hR
theorem cb_X_sent {R : Room} {s : State} {args : Array Value} {own : String} {index : Nat} {rm : Room} (hts : ∀ w ∈ gd_tb, w.before args s = true) (hl : Cond.methodLink own index y_X_sent ∈ gd_tb) (hR : rm.frames + 1 ≤ R.frames ∧ 8 + (3 + 11) + rm.locals ≤ R.locals) : CallB R s args own index y_X_sent b_X_sent 3 (some .int) w_X_sent rm rm.cells rm.slots 2 := callB_of 2 hts (gd_gi wd_554) rfl rfl rfl (hts _ wd_41) (hts _ hl) (by decide +kernel) hR
theorem cb_X_guess {R : Room} {s : State} {args : Array Value} {own : String} {index : Nat} {rm : Room} (hts : ∀ w ∈ gd_tb, w.before args s = true) (hl : Cond.methodLink own index y_X_guess ∈ gd_tb) (hR : rm.frames + 1 ≤ R.frames ∧ 8 + (1 + 11) + rm.locals ≤ R.locals) : CallB R s args own index y_X_guess b_X_guess 1 (some .long) w_X_guess rm rm.cells rm.slots 0 := callB_of 0 hts (gd_gi wd_364) rfl rfl rfl (hts _ wd_41) (hts _ hl) (by decide +kernel) hR
theorem cb_X_answer {R : Room} {s : State} {args : Array Value} {own : String} {index : Nat} {rm : Room} (hts : ∀ w ∈ gd_tb, w.before args s = true) (hl : Cond.methodLink own index y_X_answer ∈ gd_tb) (hR : rm.frames + 1 ≤ R.frames ∧ 8 + (1 + 11) + rm.locals ≤ R.locals) : CallB R s args own index y_X_answer b_X_answer 1 (some .long) w_X_answer rm rm.cells rm.slots 0 := callB_of 0 hts (gd_gi wd_368) rfl rfl rfl (hts _ wd_41) (hts _ hl) (by decide +kernel) hR
theorem cb_X_chosen {R : Room} {s : State} {args : Array Value} {own : String} {index : Nat} {rm : Room} (hts : ∀ w ∈ gd_tb, w.before args s = true) (hl : Cond.methodLink own index y_X_chosen ∈ gd_tb) (hR : rm.frames + 1 ≤ R.frames ∧ 8 + (1 + 11) + rm.locals ≤ R.locals) : CallB R s args own index y_X_chosen b_X_chosen 1 (some .int) w_X_chosen rm rm.cells rm.slots 0 := callB_of 0 hts (gd_gi wd_400) rfl rfl rfl (hts _ wd_41) (hts _ hl) (by decide +kernel) hR
theorem cb_X_syndrome {R : Room} {s : State} {args : Array Value} {own : String} {index : Nat} {rm : Room} (hts : ∀ w ∈ gd_tb, w.before args s = true) (hl : Cond.methodLink own index y_X_syndrome ∈ gd_tb) (hR : rm.frames + 1 ≤ R.frames ∧ 8 + (3 + 11) + rm.locals ≤ R.locals) : CallB R s args own index y_X_syndrome b_X_syndrome 3 (some .int) w_X_syndrome rm rm.cells rm.slots 1 := callB_of 1 hts (gd_gi wd_404) rfl rfl rfl (hts _ wd_41) (hts _ hl) (by decide +kernel) hR
theorem cb_X_total {R : Room} {s : State} {args : Array Value} {own : String} {index : Nat} {rm : Room} (hts : ∀ w ∈ gd_tb, w.before args s = true) (hl : Cond.methodLink own index y_X_total ∈ gd_tb) (hR : rm.frames + 1 ≤ R.frames ∧ 8 + (2 + 11) + rm.locals ≤ R.locals) : CallB R s args own index y_X_total b_X_total 2 (some .int) w_X_total rm rm.cells rm.slots 1 := callB_of 1 hts (gd_gi wd_409) rfl rfl rfl (hts _ wd_41) (hts _ hl) (by decide +kernel) hR
theorem cb_M_init {R : Room} {s : State} {args : Array Value} {own : String} {index : Nat} {rm : Room} (hts : ∀ w ∈ gd_tb, w.before args s = true) (hl : Cond.methodLink own index y_M_init ∈ gd_tb) (hR : rm.frames + 1 ≤ R.frames ∧ 8 + (1 + 11) + rm.locals ≤ R.locals) : CallB R s args own index y_M_init b_M_init 1 none w_M_init rm rm.cells rm.slots 0 := callB_of 0 hts (gd_gi wd_596) rfl rfl rfl (hts _ wd_46) (hts _ hl) (by decide +kernel) hR
theorem cb_M_thrown {R : Room} {s : State} {args : Array Value} {own : String} {index : Nat} {rm : Room} (hts : ∀ w ∈ gd_tb, w.before args s = true) (hl : Cond.methodLink own index y_M_thrown ∈ gd_tb) (hR : rm.frames + 1 ≤ R.frames ∧ 8 + (1 + 11) + rm.locals ≤ R.locals) : CallB R s args own index y_M_thrown b_M_thrown 1 (some .int) w_M_thrown rm rm.cells rm.slots 0 := callB_of 0 hts (gd_gi wd_681) rfl rfl rfl (hts _ wd_46) (hts _ hl) (by decide +kernel) hR
theorem cb_M_raise {R : Room} {s : State} {args : Array Value} {own : String} {index : Nat} {rm : Room} (hts : ∀ w ∈ gd_tb, w.before args s = true) (hl : Cond.methodLink own index y_M_raise ∈ gd_tb) (hR : rm.frames + 1 ≤ R.frames ∧ 8 + (2 + 11) + rm.locals ≤ R.locals) : CallB R s args own index y_M_raise b_M_raise 2 (some .int) w_M_raise rm rm.cells rm.slots 1 := callB_of 1 hts (gd_gi wd_721) rfl rfl rfl (hts _ wd_46) (hts _ hl) (by decide +kernel) hR
theorem cb_M_isPoint {R : Room} {s : State} {args : Array Value} {own : String} {index : Nat} {rm : Room} (hts : ∀ w ∈ gd_tb, w.before args s = true) (hl : Cond.methodLink own index y_M_isPoint ∈ gd_tb) (hR : rm.frames + 1 ≤ R.frames ∧ 8 + (2 + 11) + rm.locals ≤ R.locals) : CallB R s args own index y_M_isPoint b_M_isPoint 2 (some .boolean) w_M_isPoint rm rm.cells rm.slots 1 := callB_of 1 hts (gd_gi wd_693) rfl rfl rfl (hts _ wd_46) (hts _ hl) (by decide +kernel) hR
theorem cb_M_isEdge {R : Room} {s : State} {args : Array Value} {own : String} {index : Nat} {rm : Room} (hts : ∀ w ∈ gd_tb, w.before args s = true) (hl : Cond.methodLink own index y_M_isEdge ∈ gd_tb) (hR : rm.frames + 1 ≤ R.frames ∧ 8 + (2 + 11) + rm.locals ≤ R.locals) : CallB R s args own index y_M_isEdge b_M_isEdge 2 (some .boolean) w_M_isEdge rm rm.cells rm.slots 1 := callB_of 1 hts (gd_gi wd_785) rfl rfl rfl (hts _ wd_46) (hts _ hl) (by decide +kernel) hR
theorem cb_M_point {R : Room} {s : State} {args : Array Value} {own : String} {index : Nat} {rm : Room} (hts : ∀ w ∈ gd_tb, w.before args s = true) (hl : Cond.methodLink own index y_M_point ∈ gd_tb) (hR : rm.frames + 1 ≤ R.frames ∧ 8 + (2 + 11) + rm.locals ≤ R.locals) : CallB R s args own index y_M_point b_M_point 2 (some .int) w_M_point rm rm.cells rm.slots 1 := callB_of 1 hts (gd_gi wd_685) rfl rfl rfl (hts _ wd_46) (hts _ hl) (by decide +kernel) hR
theorem cb_M_edge {R : Room} {s : State} {args : Array Value} {own : String} {index : Nat} {rm : Room} (hts : ∀ w ∈ gd_tb, w.before args s = true) (hl : Cond.methodLink own index y_M_edge ∈ gd_tb) (hR : rm.frames + 1 ≤ R.frames ∧ 8 + (4 + 11) + rm.locals ≤ R.locals) : CallB R s args own index y_M_edge b_M_edge 4 (some .int) w_M_edge rm rm.cells rm.slots 3 := callB_of 3 hts (gd_gi wd_689) rfl rfl rfl (hts _ wd_46) (hts _ hl) (by decide +kernel) hR
theorem cb_M_fire {R : Room} {s : State} {args : Array Value} {own : String} {index : Nat} {rm : Room} (hts : ∀ w ∈ gd_tb, w.before args s = true) (hl : Cond.methodLink own index y_M_fire ∈ gd_tb) (hR : rm.frames + 1 ≤ R.frames ∧ 8 + (3 + 11) + rm.locals ≤ R.locals) : CallB R s args own index y_M_fire b_M_fire 3 (some .boolean) w_M_fire rm rm.cells rm.slots 2 := callB_of 2 hts (gd_gi wd_697) rfl rfl rfl (hts _ wd_46) (hts _ hl) (by decide +kernel) hR
theorem cb_M_findOdd {R : Room} {s : State} {args : Array Value} {own : String} {index : Nat} {rm : Room} (hts : ∀ w ∈ gd_tb, w.before args s = true) (hl : Cond.methodLink own index y_M_findOdd ∈ gd_tb) (hR : rm.frames + 1 ≤ R.frames ∧ 8 + (7 + 11) + rm.locals ≤ R.locals) : CallB R s args own index y_M_findOdd b_M_findOdd 7 (some .boolean) w_M_findOdd rm rm.cells rm.slots 0 := callB_of 0 hts (gd_gi wd_709) rfl rfl rfl (hts _ wd_46) (hts _ hl) (by decide +kernel) hR
theorem cb_M_growEdges {R : Room} {s : State} {args : Array Value} {own : String} {index : Nat} {rm : Room} (hts : ∀ w ∈ gd_tb, w.before args s = true) (hl : Cond.methodLink own index y_M_growEdges ∈ gd_tb) (hR : rm.frames + 1 ≤ R.frames ∧ 8 + (4 + 11) + rm.locals ≤ R.locals) : CallB R s args own index y_M_growEdges b_M_growEdges 4 (some .boolean) w_M_growEdges rm rm.cells rm.slots 0 := callB_of 0 hts (gd_gi wd_713) rfl rfl rfl (hts _ wd_46) (hts _ hl) (by decide +kernel) hR
theorem cb_M_merge {R : Room} {s : State} {args : Array Value} {own : String} {index : Nat} {rm : Room} (hts : ∀ w ∈ gd_tb, w.before args s = true) (hl : Cond.methodLink own index y_M_merge ∈ gd_tb) (hR : rm.frames + 1 ≤ R.frames ∧ 8 + (6 + 11) + rm.locals ≤ R.locals) : CallB R s args own index y_M_merge b_M_merge 6 none w_M_merge rm rm.cells rm.slots 2 := callB_of 2 hts (gd_gi wd_717) rfl rfl rfl (hts _ wd_46) (hts _ hl) (by decide +kernel) hR
theorem cb_M_growAll {R : Room} {s : State} {args : Array Value} {own : String} {index : Nat} {rm : Room} (hts : ∀ w ∈ gd_tb, w.before args s = true) (hl : Cond.methodLink own index y_M_growAll ∈ gd_tb) (hR : rm.frames + 1 ≤ R.frames ∧ 8 + (4 + 11) + rm.locals ≤ R.locals) : CallB R s args own index y_M_growAll b_M_growAll 4 (some .boolean) w_M_growAll rm rm.cells rm.slots 0 := callB_of 0 hts (gd_gi wd_705) rfl rfl rfl (hts _ wd_46) (hts _ hl) (by decide +kernel) hR
theorem cb_M_rootOf {R : Room} {s : State} {args : Array Value} {own : String} {index : Nat} {rm : Room} (hts : ∀ w ∈ gd_tb, w.before args s = true) (hl : Cond.methodLink own index y_M_rootOf ∈ gd_tb) (hR : rm.frames + 1 ≤ R.frames ∧ 8 + (3 + 11) + rm.locals ≤ R.locals) : CallB R s args own index y_M_rootOf b_M_rootOf 3 (some .int) w_M_rootOf rm rm.cells rm.slots 1 := callB_of 1 hts (gd_gi wd_729) rfl rfl rfl (hts _ wd_46) (hts _ hl) (by decide +kernel) hR
theorem cb_M_isOfFix {R : Room} {s : State} {args : Array Value} {own : String} {index : Nat} {rm : Room} (hts : ∀ w ∈ gd_tb, w.before args s = true) (hl : Cond.methodLink own index y_M_isOfFix ∈ gd_tb) (hR : rm.frames + 1 ≤ R.frames ∧ 8 + (6 + 11) + rm.locals ≤ R.locals) : CallB R s args own index y_M_isOfFix b_M_isOfFix 6 (some .boolean) w_M_isOfFix rm rm.cells rm.slots 1 := callB_of 1 hts (gd_gi wd_725) rfl rfl rfl (hts _ wd_46) (hts _ hl) (by decide +kernel) hR
theorem cb_M_grow {R : Room} {s : State} {args : Array Value} {own : String} {index : Nat} {rm : Room} (hts : ∀ w ∈ gd_tb, w.before args s = true) (hl : Cond.methodLink own index y_M_grow ∈ gd_tb) (hR : rm.frames + 1 ≤ R.frames ∧ 8 + (3 + 11) + rm.locals ≤ R.locals) : CallB R s args own index y_M_grow b_M_grow 3 (some .int) w_M_grow rm rm.cells rm.slots 0 := callB_of 0 hts (gd_gi wd_701) rfl rfl rfl (hts _ wd_46) (hts _ hl) (by decide +kernel) hR
theorem cb_M_cluster {R : Room} {s : State} {args : Array Value} {own : String} {index : Nat} {rm : Room} (hts : ∀ w ∈ gd_tb, w.before args s = true) (hl : Cond.methodLink own index y_M_cluster ∈ gd_tb) (hR : rm.frames + 1 ≤ R.frames ∧ 8 + (2 + 11) + rm.locals ≤ R.locals) : CallB R s args own index y_M_cluster b_M_cluster 2 (some .int) w_M_cluster rm rm.cells rm.slots 1 := callB_of 1 hts (gd_gi wd_733) rfl rfl rfl (hts _ wd_46) (hts _ hl) (by decide +kernel) hR
theorem cb_M_size {R : Room} {s : State} {args : Array Value} {own : String} {index : Nat} {rm : Room} (hts : ∀ w ∈ gd_tb, w.before args s = true) (hl : Cond.methodLink own index y_M_size ∈ gd_tb) (hR : rm.frames + 1 ≤ R.frames ∧ 8 + (2 + 11) + rm.locals ≤ R.locals) : CallB R s args own index y_M_size b_M_size 2 (some .int) w_M_size rm rm.cells rm.slots 1 := callB_of 1 hts (gd_gi wd_737) rfl rfl rfl (hts _ wd_46) (hts _ hl) (by decide +kernel) hR
theorem cb_M_grown {R : Room} {s : State} {args : Array Value} {own : String} {index : Nat} {rm : Room} (hts : ∀ w ∈ gd_tb, w.before args s = true) (hl : Cond.methodLink own index y_M_grown ∈ gd_tb) (hR : rm.frames + 1 ≤ R.frames ∧ 8 + (2 + 11) + rm.locals ≤ R.locals) : CallB R s args own index y_M_grown b_M_grown 2 (some .long) w_M_grown rm rm.cells rm.slots 1 := callB_of 1 hts (gd_gi wd_741) rfl rfl rfl (hts _ wd_46) (hts _ hl) (by decide +kernel) hR
theorem cb_M_within {R : Room} {s : State} {args : Array Value} {own : String} {index : Nat} {rm : Room} (hts : ∀ w ∈ gd_tb, w.before args s = true) (hl : Cond.methodLink own index y_M_within ∈ gd_tb) (hR : rm.frames + 1 ≤ R.frames ∧ 8 + (1 + 11) + rm.locals ≤ R.locals) : CallB R s args own index y_M_within b_M_within 1 (some .int) w_M_within rm rm.cells rm.slots 1 := callB_of 1 hts (gd_gi wd_757) rfl rfl rfl (hts _ wd_46) (hts _ hl) (by decide +kernel) hR
theorem cb_M_isInner {R : Room} {s : State} {args : Array Value} {own : String} {index : Nat} {rm : Room} (hts : ∀ w ∈ gd_tb, w.before args s = true) (hl : Cond.methodLink own index y_M_isInner ∈ gd_tb) (hR : rm.frames + 1 ≤ R.frames ∧ 8 + (2 + 11) + rm.locals ≤ R.locals) : CallB R s args own index y_M_isInner b_M_isInner 2 (some .boolean) w_M_isInner rm rm.cells rm.slots 1 := callB_of 1 hts (gd_gi wd_754) rfl rfl rfl (hts _ wd_46) (hts _ hl) (by decide +kernel) hR
theorem cb_M_sendToPoints {R : Room} {s : State} {args : Array Value} {own : String} {index : Nat} {rm : Room} (hts : ∀ w ∈ gd_tb, w.before args s = true) (hl : Cond.methodLink own index y_M_sendToPoints ∈ gd_tb) (hR : rm.frames + 1 ≤ R.frames ∧ 8 + (2 + 11) + rm.locals ≤ R.locals) : CallB R s args own index y_M_sendToPoints b_M_sendToPoints 2 none w_M_sendToPoints rm rm.cells rm.slots 0 := callB_of 0 hts (gd_gi wd_750) rfl rfl rfl (hts _ wd_46) (hts _ hl) (by decide +kernel) hR
theorem cb_M_answerOf {R : Room} {s : State} {args : Array Value} {own : String} {index : Nat} {rm : Room} (hts : ∀ w ∈ gd_tb, w.before args s = true) (hl : Cond.methodLink own index y_M_answerOf ∈ gd_tb) (hR : rm.frames + 1 ≤ R.frames ∧ 8 + (7 + 11) + rm.locals ≤ R.locals) : CallB R s args own index y_M_answerOf b_M_answerOf 7 (some .int) w_M_answerOf rm rm.cells rm.slots 1 := callB_of 1 hts (gd_gi wd_765) rfl rfl rfl (hts _ wd_46) (hts _ hl) (by decide +kernel) hR
theorem cb_M_sendToEdges {R : Room} {s : State} {args : Array Value} {own : String} {index : Nat} {rm : Room} (hts : ∀ w ∈ gd_tb, w.before args s = true) (hl : Cond.methodLink own index y_M_sendToEdges ∈ gd_tb) (hR : rm.frames + 1 ≤ R.frames ∧ 8 + (2 + 11) + rm.locals ≤ R.locals) : CallB R s args own index y_M_sendToEdges b_M_sendToEdges 2 none w_M_sendToEdges rm rm.cells rm.slots 0 := callB_of 0 hts (gd_gi wd_761) rfl rfl rfl (hts _ wd_46) (hts _ hl) (by decide +kernel) hR
theorem cb_M_belief {R : Room} {s : State} {args : Array Value} {own : String} {index : Nat} {rm : Room} (hts : ∀ w ∈ gd_tb, w.before args s = true) (hl : Cond.methodLink own index y_M_belief ∈ gd_tb) (hR : rm.frames + 1 ≤ R.frames ∧ 8 + (2 + 11) + rm.locals ≤ R.locals) : CallB R s args own index y_M_belief b_M_belief 2 (some .int) w_M_belief rm rm.cells rm.slots 1 := callB_of 1 hts (gd_gi wd_773) rfl rfl rfl (hts _ wd_46) (hts _ hl) (by decide +kernel) hR
theorem cb_M_guessed {R : Room} {s : State} {args : Array Value} {own : String} {index : Nat} {rm : Room} (hts : ∀ w ∈ gd_tb, w.before args s = true) (hl : Cond.methodLink own index y_M_guessed ∈ gd_tb) (hR : rm.frames + 1 ≤ R.frames ∧ 8 + (4 + 11) + rm.locals ≤ R.locals) : CallB R s args own index y_M_guessed b_M_guessed 4 (some .long) w_M_guessed rm rm.cells rm.slots 0 := callB_of 0 hts (gd_gi wd_769) rfl rfl rfl (hts _ wd_46) (hts _ hl) (by decide +kernel) hR
theorem cb_M_believe {R : Room} {s : State} {args : Array Value} {own : String} {index : Nat} {rm : Room} (hts : ∀ w ∈ gd_tb, w.before args s = true) (hl : Cond.methodLink own index y_M_believe ∈ gd_tb) (hR : rm.frames + 1 ≤ R.frames ∧ 8 + (3 + 11) + rm.locals ≤ R.locals) : CallB R s args own index y_M_believe b_M_believe 3 (some .int) w_M_believe rm rm.cells rm.slots 1 := callB_of 1 hts (gd_gi wd_746) rfl rfl rfl (hts _ wd_46) (hts _ hl) (by decide +kernel) hR
theorem cb_M_sent {R : Room} {s : State} {args : Array Value} {own : String} {index : Nat} {rm : Room} (hts : ∀ w ∈ gd_tb, w.before args s = true) (hl : Cond.methodLink own index y_M_sent ∈ gd_tb) (hR : rm.frames + 1 ≤ R.frames ∧ 8 + (3 + 11) + rm.locals ≤ R.locals) : CallB R s args own index y_M_sent b_M_sent 3 (some .int) w_M_sent rm rm.cells rm.slots 2 := callB_of 2 hts (gd_gi wd_781) rfl rfl rfl (hts _ wd_46) (hts _ hl) (by decide +kernel) hR
theorem cb_M_guess {R : Room} {s : State} {args : Array Value} {own : String} {index : Nat} {rm : Room} (hts : ∀ w ∈ gd_tb, w.before args s = true) (hl : Cond.methodLink own index y_M_guess ∈ gd_tb) (hR : rm.frames + 1 ≤ R.frames ∧ 8 + (1 + 11) + rm.locals ≤ R.locals) : CallB R s args own index y_M_guess b_M_guess 1 (some .long) w_M_guess rm rm.cells rm.slots 0 := callB_of 0 hts (gd_gi wd_789) rfl rfl rfl (hts _ wd_46) (hts _ hl) (by decide +kernel) hR
theorem cb_M_highest {R : Room} {s : State} {args : Array Value} {own : String} {index : Nat} {rm : Room} (hts : ∀ w ∈ gd_tb, w.before args s = true) (hl : Cond.methodLink own index y_M_highest ∈ gd_tb) (hR : rm.frames + 1 ≤ R.frames ∧ 8 + (2 + 11) + rm.locals ≤ R.locals) : CallB R s args own index y_M_highest b_M_highest 2 (some .int) w_M_highest rm rm.cells rm.slots 1 := callB_of 1 hts (gd_gi wd_812) rfl rfl rfl (hts _ wd_46) (hts _ hl) (by decide +kernel) hR
theorem cb_M_left {R : Room} {s : State} {args : Array Value} {own : String} {index : Nat} {rm : Room} (hts : ∀ w ∈ gd_tb, w.before args s = true) (hl : Cond.methodLink own index y_M_left ∈ gd_tb) (hR : rm.frames + 1 ≤ R.frames ∧ 8 + (4 + 11) + rm.locals ≤ R.locals) : CallB R s args own index y_M_left b_M_left 4 (some .int) w_M_left rm rm.cells rm.slots 1 := callB_of 1 hts (gd_gi wd_809) rfl rfl rfl (hts _ wd_46) (hts _ hl) (by decide +kernel) hR
theorem cb_M_orderOf {R : Room} {s : State} {args : Array Value} {own : String} {index : Nat} {rm : Room} (hts : ∀ w ∈ gd_tb, w.before args s = true) (hl : Cond.methodLink own index y_M_orderOf ∈ gd_tb) (hR : rm.frames + 1 ≤ R.frames ∧ 8 + (2 + 11) + rm.locals ≤ R.locals) : CallB R s args own index y_M_orderOf b_M_orderOf 2 (some .int) w_M_orderOf rm rm.cells rm.slots 1 := callB_of 1 hts (gd_gi wd_805) rfl rfl rfl (hts _ wd_46) (hts _ hl) (by decide +kernel) hR
theorem cb_M_nextEdge {R : Room} {s : State} {args : Array Value} {own : String} {index : Nat} {rm : Room} (hts : ∀ w ∈ gd_tb, w.before args s = true) (hl : Cond.methodLink own index y_M_nextEdge ∈ gd_tb) (hR : rm.frames + 1 ≤ R.frames ∧ 8 + (3 + 11) + rm.locals ≤ R.locals) : CallB R s args own index y_M_nextEdge b_M_nextEdge 3 (some .int) w_M_nextEdge rm rm.cells rm.slots 0 := callB_of 0 hts (gd_gi wd_801) rfl rfl rfl (hts _ wd_46) (hts _ hl) (by decide +kernel) hR
theorem cb_M_choose {R : Room} {s : State} {args : Array Value} {own : String} {index : Nat} {rm : Room} (hts : ∀ w ∈ gd_tb, w.before args s = true) (hl : Cond.methodLink own index y_M_choose ∈ gd_tb) (hR : rm.frames + 1 ≤ R.frames ∧ 8 + (4 + 11) + rm.locals ≤ R.locals) : CallB R s args own index y_M_choose b_M_choose 4 none w_M_choose rm rm.cells rm.slots 0 := callB_of 0 hts (gd_gi wd_797) rfl rfl rfl (hts _ wd_46) (hts _ hl) (by decide +kernel) hR
theorem cb_M_answer {R : Room} {s : State} {args : Array Value} {own : String} {index : Nat} {rm : Room} (hts : ∀ w ∈ gd_tb, w.before args s = true) (hl : Cond.methodLink own index y_M_answer ∈ gd_tb) (hR : rm.frames + 1 ≤ R.frames ∧ 8 + (1 + 11) + rm.locals ≤ R.locals) : CallB R s args own index y_M_answer b_M_answer 1 (some .long) w_M_answer rm rm.cells rm.slots 0 := callB_of 0 hts (gd_gi wd_793) rfl rfl rfl (hts _ wd_46) (hts _ hl) (by decide +kernel) hR
theorem cb_M_chosen {R : Room} {s : State} {args : Array Value} {own : String} {index : Nat} {rm : Room} (hts : ∀ w ∈ gd_tb, w.before args s = true) (hl : Cond.methodLink own index y_M_chosen ∈ gd_tb) (hR : rm.frames + 1 ≤ R.frames ∧ 8 + (1 + 11) + rm.locals ≤ R.locals) : CallB R s args own index y_M_chosen b_M_chosen 1 (some .int) w_M_chosen rm rm.cells rm.slots 0 := callB_of 0 hts (gd_gi wd_816) rfl rfl rfl (hts _ wd_46) (hts _ hl) (by decide +kernel) hR
theorem cb_M_syndromeOf {R : Room} {s : State} {args : Array Value} {own : String} {index : Nat} {rm : Room} (hts : ∀ w ∈ gd_tb, w.before args s = true) (hl : Cond.methodLink own index y_M_syndromeOf ∈ gd_tb) (hR : rm.frames + 1 ≤ R.frames ∧ 8 + (5 + 11) + rm.locals ≤ R.locals) : CallB R s args own index y_M_syndromeOf b_M_syndromeOf 5 (some .int) w_M_syndromeOf rm rm.cells rm.slots 1 := callB_of 1 hts (gd_gi wd_777) rfl rfl rfl (hts _ wd_46) (hts _ hl) (by decide +kernel) hR
theorem cb_M_syndrome {R : Room} {s : State} {args : Array Value} {own : String} {index : Nat} {rm : Room} (hts : ∀ w ∈ gd_tb, w.before args s = true) (hl : Cond.methodLink own index y_M_syndrome ∈ gd_tb) (hR : rm.frames + 1 ≤ R.frames ∧ 8 + (3 + 11) + rm.locals ≤ R.locals) : CallB R s args own index y_M_syndrome b_M_syndrome 3 (some .int) w_M_syndrome rm rm.cells rm.slots 1 := callB_of 1 hts (gd_gi wd_820) rfl rfl rfl (hts _ wd_46) (hts _ hl) (by decide +kernel) hR
theorem cb_M_total {R : Room} {s : State} {args : Array Value} {own : String} {index : Nat} {rm : Room} (hts : ∀ w ∈ gd_tb, w.before args s = true) (hl : Cond.methodLink own index y_M_total ∈ gd_tb) (hR : rm.frames + 1 ≤ R.frames ∧ 8 + (4 + 11) + rm.locals ≤ R.locals) : CallB R s args own index y_M_total b_M_total 4 (some .int) w_M_total rm rm.cells rm.slots 1 := callB_of 1 hts (gd_gi wd_824) rfl rfl rfl (hts _ wd_46) (hts _ hl) (by decide +kernel) hR
theorem cb_B_init {R : Room} {s : State} {args : Array Value} {own : String} {index : Nat} {rm : Room} (hts : ∀ w ∈ gd_tb, w.before args s = true) (hl : Cond.methodLink own index y_B_init ∈ gd_tb) (hR : rm.frames + 1 ≤ R.frames ∧ 8 + (1 + 11) + rm.locals ≤ R.locals) : CallB R s args own index y_B_init b_B_init 1 none w_B_init rm rm.cells rm.slots 0 := callB_of 0 hts (gd_gi wd_168) rfl rfl rfl (hts _ wd_44) (hts _ hl) (by decide +kernel) hR
theorem cb_B_forget {R : Room} {s : State} {args : Array Value} {own : String} {index : Nat} {rm : Room} (hts : ∀ w ∈ gd_tb, w.before args s = true) (hl : Cond.methodLink own index y_B_forget ∈ gd_tb) (hR : rm.frames + 1 ≤ R.frames ∧ 8 + (1 + 11) + rm.locals ≤ R.locals) : CallB R s args own index y_B_forget b_B_forget 1 none w_B_forget rm rm.cells rm.slots 0 := callB_of 0 hts (gd_gi wd_253) rfl rfl rfl (hts _ wd_44) (hts _ hl) (by decide +kernel) hR
theorem cb_B_settle {R : Room} {s : State} {args : Array Value} {own : String} {index : Nat} {rm : Room} (hts : ∀ w ∈ gd_tb, w.before args s = true) (hl : Cond.methodLink own index y_B_settle ∈ gd_tb) (hR : rm.frames + 1 ≤ R.frames ∧ 8 + (4 + 11) + rm.locals ≤ R.locals) : CallB R s args own index y_B_settle b_B_settle 4 (some .int) w_B_settle rm rm.cells rm.slots 2 := callB_of 2 hts (gd_gi wd_308) rfl rfl rfl (hts _ wd_44) (hts _ hl) (by decide +kernel) hR
theorem cb_B_beliefOf {R : Room} {s : State} {args : Array Value} {own : String} {index : Nat} {rm : Room} (hts : ∀ w ∈ gd_tb, w.before args s = true) (hl : Cond.methodLink own index y_B_beliefOf ∈ gd_tb) (hR : rm.frames + 1 ≤ R.frames ∧ 8 + (3 + 11) + rm.locals ≤ R.locals) : CallB R s args own index y_B_beliefOf b_B_beliefOf 3 (some .int) w_B_beliefOf rm rm.cells rm.slots 2 := callB_of 2 hts (gd_gi wd_352) rfl rfl rfl (hts _ wd_44) (hts _ hl) (by decide +kernel) hR
theorem cb_B_sendToPoints {R : Room} {s : State} {args : Array Value} {own : String} {index : Nat} {rm : Room} (hts : ∀ w ∈ gd_tb, w.before args s = true) (hl : Cond.methodLink own index y_B_sendToPoints ∈ gd_tb) (hR : rm.frames + 1 ≤ R.frames ∧ 8 + (3 + 11) + rm.locals ≤ R.locals) : CallB R s args own index y_B_sendToPoints b_B_sendToPoints 3 none w_B_sendToPoints rm rm.cells rm.slots 1 := callB_of 1 hts (gd_gi wd_315) rfl rfl rfl (hts _ wd_44) (hts _ hl) (by decide +kernel) hR
theorem cb_B_bounded {R : Room} {s : State} {args : Array Value} {own : String} {index : Nat} {rm : Room} (hts : ∀ w ∈ gd_tb, w.before args s = true) (hl : Cond.methodLink own index y_B_bounded ∈ gd_tb) (hR : rm.frames + 1 ≤ R.frames ∧ 8 + (1 + 11) + rm.locals ≤ R.locals) : CallB R s args own index y_B_bounded b_B_bounded 1 (some .int) w_B_bounded rm rm.cells rm.slots 1 := callB_of 1 hts (gd_gi wd_318) rfl rfl rfl (hts _ wd_44) (hts _ hl) (by decide +kernel) hR
theorem cb_B_gather {R : Room} {s : State} {args : Array Value} {own : String} {index : Nat} {rm : Room} (hts : ∀ w ∈ gd_tb, w.before args s = true) (hl : Cond.methodLink own index y_B_gather ∈ gd_tb) (hR : rm.frames + 1 ≤ R.frames ∧ 8 + (3 + 11) + rm.locals ≤ R.locals) : CallB R s args own index y_B_gather b_B_gather 3 none w_B_gather rm rm.cells rm.slots 1 := callB_of 1 hts (gd_gi wd_328) rfl rfl rfl (hts _ wd_44) (hts _ hl) (by decide +kernel) hR
theorem cb_B_gatherAt {R : Room} {s : State} {args : Array Value} {own : String} {index : Nat} {rm : Room} (hts : ∀ w ∈ gd_tb, w.before args s = true) (hl : Cond.methodLink own index y_B_gatherAt ∈ gd_tb) (hR : rm.frames + 1 ≤ R.frames ∧ 8 + (4 + 11) + rm.locals ≤ R.locals) : CallB R s args own index y_B_gatherAt b_B_gatherAt 4 none w_B_gatherAt rm rm.cells rm.slots 2 := callB_of 2 hts (gd_gi wd_332) rfl rfl rfl (hts _ wd_44) (hts _ hl) (by decide +kernel) hR
theorem cb_B_sendToEdges {R : Room} {s : State} {args : Array Value} {own : String} {index : Nat} {rm : Room} (hts : ∀ w ∈ gd_tb, w.before args s = true) (hl : Cond.methodLink own index y_B_sendToEdges ∈ gd_tb) (hR : rm.frames + 1 ≤ R.frames ∧ 8 + (3 + 11) + rm.locals ≤ R.locals) : CallB R s args own index y_B_sendToEdges b_B_sendToEdges 3 none w_B_sendToEdges rm rm.cells rm.slots 1 := callB_of 1 hts (gd_gi wd_339) rfl rfl rfl (hts _ wd_44) (hts _ hl) (by decide +kernel) hR
theorem cb_B_sentBack {R : Room} {s : State} {args : Array Value} {own : String} {index : Nat} {rm : Room} (hts : ∀ w ∈ gd_tb, w.before args s = true) (hl : Cond.methodLink own index y_B_sentBack ∈ gd_tb) (hR : rm.frames + 1 ≤ R.frames ∧ 8 + (6 + 11) + rm.locals ≤ R.locals) : CallB R s args own index y_B_sentBack b_B_sentBack 6 (some .int) w_B_sentBack rm rm.cells rm.slots 3 := callB_of 3 hts (gd_gi wd_343) rfl rfl rfl (hts _ wd_44) (hts _ hl) (by decide +kernel) hR
theorem cb_B_negativeEdges {R : Room} {s : State} {args : Array Value} {own : String} {index : Nat} {rm : Room} (hts : ∀ w ∈ gd_tb, w.before args s = true) (hl : Cond.methodLink own index y_B_negativeEdges ∈ gd_tb) (hR : rm.frames + 1 ≤ R.frames ∧ 8 + (5 + 11) + rm.locals ≤ R.locals) : CallB R s args own index y_B_negativeEdges b_B_negativeEdges 5 (some .long) w_B_negativeEdges rm rm.cells rm.slots 1 := callB_of 1 hts (gd_gi wd_348) rfl rfl rfl (hts _ wd_44) (hts _ hl) (by decide +kernel) hR
theorem cb_G_init {R : Room} {s : State} {args : Array Value} {own : String} {index : Nat} {rm : Room} (hts : ∀ w ∈ gd_tb, w.before args s = true) (hl : Cond.methodLink own index y_G_init ∈ gd_tb) (hR : rm.frames + 1 ≤ R.frames ∧ 8 + (1 + 11) + rm.locals ≤ R.locals) : CallB R s args own index y_G_init b_G_init 1 none w_G_init rm rm.cells rm.slots 0 := callB_of 0 hts (gd_gi wd_68) rfl rfl rfl (hts _ wd_42) (hts _ hl) (by decide +kernel) hR
theorem cb_G_hasPoint {R : Room} {s : State} {args : Array Value} {own : String} {index : Nat} {rm : Room} (hts : ∀ w ∈ gd_tb, w.before args s = true) (hl : Cond.methodLink own index y_G_hasPoint ∈ gd_tb) (hR : rm.frames + 1 ≤ R.frames ∧ 8 + (2 + 11) + rm.locals ≤ R.locals) : CallB R s args own index y_G_hasPoint b_G_hasPoint 2 (some .boolean) w_G_hasPoint rm rm.cells rm.slots 1 := callB_of 1 hts (gd_gi wd_269) rfl rfl rfl (hts _ wd_42) (hts _ hl) (by decide +kernel) hR
theorem cb_G_hasEdge {R : Room} {s : State} {args : Array Value} {own : String} {index : Nat} {rm : Room} (hts : ∀ w ∈ gd_tb, w.before args s = true) (hl : Cond.methodLink own index y_G_hasEdge ∈ gd_tb) (hR : rm.frames + 1 ≤ R.frames ∧ 8 + (2 + 11) + rm.locals ≤ R.locals) : CallB R s args own index y_G_hasEdge b_G_hasEdge 2 (some .boolean) w_G_hasEdge rm rm.cells rm.slots 1 := callB_of 1 hts (gd_gi wd_574) rfl rfl rfl (hts _ wd_42) (hts _ hl) (by decide +kernel) hR
theorem cb_G_isBoundary {R : Room} {s : State} {args : Array Value} {own : String} {index : Nat} {rm : Room} (hts : ∀ w ∈ gd_tb, w.before args s = true) (hl : Cond.methodLink own index y_G_isBoundary ∈ gd_tb) (hR : rm.frames + 1 ≤ R.frames ∧ 8 + (2 + 11) + rm.locals ≤ R.locals) : CallB R s args own index y_G_isBoundary b_G_isBoundary 2 (some .boolean) w_G_isBoundary rm rm.cells rm.slots 1 := callB_of 1 hts (gd_gi wd_273) rfl rfl rfl (hts _ wd_42) (hts _ hl) (by decide +kernel) hR
theorem cb_G_isFired {R : Room} {s : State} {args : Array Value} {own : String} {index : Nat} {rm : Room} (hts : ∀ w ∈ gd_tb, w.before args s = true) (hl : Cond.methodLink own index y_G_isFired ∈ gd_tb) (hR : rm.frames + 1 ≤ R.frames ∧ 8 + (2 + 11) + rm.locals ≤ R.locals) : CallB R s args own index y_G_isFired b_G_isFired 2 (some .boolean) w_G_isFired rm rm.cells rm.slots 1 := callB_of 1 hts (gd_gi wd_287) rfl rfl rfl (hts _ wd_42) (hts _ hl) (by decide +kernel) hR
theorem cb_G_canJoin {R : Room} {s : State} {args : Array Value} {own : String} {index : Nat} {rm : Room} (hts : ∀ w ∈ gd_tb, w.before args s = true) (hl : Cond.methodLink own index y_G_canJoin ∈ gd_tb) (hR : rm.frames + 1 ≤ R.frames ∧ 8 + (3 + 11) + rm.locals ≤ R.locals) : CallB R s args own index y_G_canJoin b_G_canJoin 3 (some .boolean) w_G_canJoin rm rm.cells rm.slots 2 := callB_of 2 hts (gd_gi wd_265) rfl rfl rfl (hts _ wd_42) (hts _ hl) (by decide +kernel) hR
theorem cb_G_addPoint {R : Room} {s : State} {args : Array Value} {own : String} {index : Nat} {rm : Room} (hts : ∀ w ∈ gd_tb, w.before args s = true) (hl : Cond.methodLink own index y_G_addPoint ∈ gd_tb) (hR : rm.frames + 1 ≤ R.frames ∧ 8 + (3 + 11) + rm.locals ≤ R.locals) : CallB R s args own index y_G_addPoint b_G_addPoint 3 (some .int) w_G_addPoint rm rm.cells rm.slots 1 := callB_of 1 hts (gd_gi wd_257) rfl rfl rfl (hts _ wd_42) (hts _ hl) (by decide +kernel) hR
theorem cb_G_addEdge {R : Room} {s : State} {args : Array Value} {own : String} {index : Nat} {rm : Room} (hts : ∀ w ∈ gd_tb, w.before args s = true) (hl : Cond.methodLink own index y_G_addEdge ∈ gd_tb) (hR : rm.frames + 1 ≤ R.frames ∧ 8 + (5 + 11) + rm.locals ≤ R.locals) : CallB R s args own index y_G_addEdge b_G_addEdge 5 (some .int) w_G_addEdge rm rm.cells rm.slots 3 := callB_of 3 hts (gd_gi wd_277) rfl rfl rfl (hts _ wd_42) (hts _ hl) (by decide +kernel) hR
theorem cb_G_innerEnds {R : Room} {s : State} {args : Array Value} {own : String} {index : Nat} {rm : Room} (hts : ∀ w ∈ gd_tb, w.before args s = true) (hl : Cond.methodLink own index y_G_innerEnds ∈ gd_tb) (hR : rm.frames + 1 ≤ R.frames ∧ 8 + (2 + 11) + rm.locals ≤ R.locals) : CallB R s args own index y_G_innerEnds b_G_innerEnds 2 (some .int) w_G_innerEnds rm rm.cells rm.slots 1 := callB_of 1 hts (gd_gi wd_360) rfl rfl rfl (hts _ wd_42) (hts _ hl) (by decide +kernel) hR
theorem cb_G_oddEnds {R : Room} {s : State} {args : Array Value} {own : String} {index : Nat} {rm : Room} (hts : ∀ w ∈ gd_tb, w.before args s = true) (hl : Cond.methodLink own index y_G_oddEnds ∈ gd_tb) (hR : rm.frames + 1 ≤ R.frames ∧ 8 + (5 + 11) + rm.locals ≤ R.locals) : CallB R s args own index y_G_oddEnds b_G_oddEnds 5 (some .int) w_G_oddEnds rm rm.cells rm.slots 1 := callB_of 1 hts (gd_gi wd_356) rfl rfl rfl (hts _ wd_42) (hts _ hl) (by decide +kernel) hR
theorem cb_W_init {R : Room} {s : State} {args : Array Value} {own : String} {index : Nat} {rm : Room} (hts : ∀ w ∈ gd_tb, w.before args s = true) (hl : Cond.methodLink own index y_W_init ∈ gd_tb) (hR : rm.frames + 1 ≤ R.frames ∧ 8 + (1 + 11) + rm.locals ≤ R.locals) : CallB R s args own index y_W_init b_W_init 1 none w_W_init rm rm.cells rm.slots 0 := callB_of 0 hts (gd_gi wd_114) rfl rfl rfl (hts _ wd_43) (hts _ hl) (by decide +kernel) hR
theorem cb_W_growOver {R : Room} {s : State} {args : Array Value} {own : String} {index : Nat} {rm : Room} (hts : ∀ w ∈ gd_tb, w.before args s = true) (hl : Cond.methodLink own index y_W_growOver ∈ gd_tb) (hR : rm.frames + 1 ≤ R.frames ∧ 8 + (5 + 11) + rm.locals ≤ R.locals) : CallB R s args own index y_W_growOver b_W_growOver 5 (some .boolean) w_W_growOver rm rm.cells rm.slots 1 := callB_of 1 hts (gd_gi wd_421) rfl rfl rfl (hts _ wd_43) (hts _ hl) (by decide +kernel) hR
theorem cb_W_begin {R : Room} {s : State} {args : Array Value} {own : String} {index : Nat} {rm : Room} (hts : ∀ w ∈ gd_tb, w.before args s = true) (hl : Cond.methodLink own index y_W_begin ∈ gd_tb) (hR : rm.frames + 1 ≤ R.frames ∧ 8 + (3 + 11) + rm.locals ≤ R.locals) : CallB R s args own index y_W_begin b_W_begin 3 none w_W_begin rm rm.cells rm.slots 1 := callB_of 1 hts (gd_gi wd_425) rfl rfl rfl (hts _ wd_43) (hts _ hl) (by decide +kernel) hR
theorem cb_W_pointsOfOddClusters {R : Room} {s : State} {args : Array Value} {own : String} {index : Nat} {rm : Room} (hts : ∀ w ∈ gd_tb, w.before args s = true) (hl : Cond.methodLink own index y_W_pointsOfOddClusters ∈ gd_tb) (hR : rm.frames + 1 ≤ R.frames ∧ 8 + (4 + 11) + rm.locals ≤ R.locals) : CallB R s args own index y_W_pointsOfOddClusters b_W_pointsOfOddClusters 4 (some .int) w_W_pointsOfOddClusters rm rm.cells rm.slots 1 := callB_of 1 hts (gd_gi wd_430) rfl rfl rfl (hts _ wd_43) (hts _ hl) (by decide +kernel) hR
theorem cb_W_isOdd {R : Room} {s : State} {args : Array Value} {own : String} {index : Nat} {rm : Room} (hts : ∀ w ∈ gd_tb, w.before args s = true) (hl : Cond.methodLink own index y_W_isOdd ∈ gd_tb) (hR : rm.frames + 1 ≤ R.frames ∧ 8 + (2 + 11) + rm.locals ≤ R.locals) : CallB R s args own index y_W_isOdd b_W_isOdd 2 (some .boolean) w_W_isOdd rm rm.cells rm.slots 2 := callB_of 2 hts (gd_gi wd_433) rfl rfl rfl (hts _ wd_43) (hts _ hl) (by decide +kernel) hR
theorem cb_W_feed {R : Room} {s : State} {args : Array Value} {own : String} {index : Nat} {rm : Room} (hts : ∀ w ∈ gd_tb, w.before args s = true) (hl : Cond.methodLink own index y_W_feed ∈ gd_tb) (hR : rm.frames + 1 ≤ R.frames ∧ 8 + (7 + 11) + rm.locals ≤ R.locals) : CallB R s args own index y_W_feed b_W_feed 7 (some .long) w_W_feed rm rm.cells rm.slots 2 := callB_of 2 hts (gd_gi wd_443) rfl rfl rfl (hts _ wd_43) (hts _ hl) (by decide +kernel) hR
theorem cb_W_joinFull {R : Room} {s : State} {args : Array Value} {own : String} {index : Nat} {rm : Room} (hts : ∀ w ∈ gd_tb, w.before args s = true) (hl : Cond.methodLink own index y_W_joinFull ∈ gd_tb) (hR : rm.frames + 1 ≤ R.frames ∧ 8 + (6 + 11) + rm.locals ≤ R.locals) : CallB R s args own index y_W_joinFull b_W_joinFull 6 none w_W_joinFull rm rm.cells rm.slots 2 := callB_of 2 hts (gd_gi wd_447) rfl rfl rfl (hts _ wd_43) (hts _ hl) (by decide +kernel) hR
theorem cb_W_join {R : Room} {s : State} {args : Array Value} {own : String} {index : Nat} {rm : Room} (hts : ∀ w ∈ gd_tb, w.before args s = true) (hl : Cond.methodLink own index y_W_join ∈ gd_tb) (hR : rm.frames + 1 ≤ R.frames ∧ 8 + (6 + 11) + rm.locals ≤ R.locals) : CallB R s args own index y_W_join b_W_join 6 none w_W_join rm rm.cells rm.slots 2 := callB_of 2 hts (gd_gi wd_451) rfl rfl rfl (hts _ wd_43) (hts _ hl) (by decide +kernel) hR
theorem cb_W_peel {R : Room} {s : State} {args : Array Value} {own : String} {index : Nat} {rm : Room} (hts : ∀ w ∈ gd_tb, w.before args s = true) (hl : Cond.methodLink own index y_W_peel ∈ gd_tb) (hR : rm.frames + 1 ≤ R.frames ∧ 8 + (6 + 11) + rm.locals ≤ R.locals) : CallB R s args own index y_W_peel b_W_peel 6 none w_W_peel rm rm.cells rm.slots 1 := callB_of 1 hts (gd_gi wd_457) rfl rfl rfl (hts _ wd_43) (hts _ hl) (by decide +kernel) hR
theorem cb_W_walkFromRoots {R : Room} {s : State} {args : Array Value} {own : String} {index : Nat} {rm : Room} (hts : ∀ w ∈ gd_tb, w.before args s = true) (hl : Cond.methodLink own index y_W_walkFromRoots ∈ gd_tb) (hR : rm.frames + 1 ≤ R.frames ∧ 8 + (3 + 11) + rm.locals ≤ R.locals) : CallB R s args own index y_W_walkFromRoots b_W_walkFromRoots 3 none w_W_walkFromRoots rm rm.cells rm.slots 1 := callB_of 1 hts (gd_gi wd_461) rfl rfl rfl (hts _ wd_43) (hts _ hl) (by decide +kernel) hR
theorem cb_W_rootOf {R : Room} {s : State} {args : Array Value} {own : String} {index : Nat} {rm : Room} (hts : ∀ w ∈ gd_tb, w.before args s = true) (hl : Cond.methodLink own index y_W_rootOf ∈ gd_tb) (hR : rm.frames + 1 ≤ R.frames ∧ 8 + (4 + 11) + rm.locals ≤ R.locals) : CallB R s args own index y_W_rootOf b_W_rootOf 4 (some .int) w_W_rootOf rm rm.cells rm.slots 2 := callB_of 2 hts (gd_gi wd_465) rfl rfl rfl (hts _ wd_43) (hts _ hl) (by decide +kernel) hR
theorem cb_W_walkOnFrom {R : Room} {s : State} {args : Array Value} {own : String} {index : Nat} {rm : Room} (hts : ∀ w ∈ gd_tb, w.before args s = true) (hl : Cond.methodLink own index y_W_walkOnFrom ∈ gd_tb) (hR : rm.frames + 1 ≤ R.frames ∧ 8 + (5 + 11) + rm.locals ≤ R.locals) : CallB R s args own index y_W_walkOnFrom b_W_walkOnFrom 5 none w_W_walkOnFrom rm rm.cells rm.slots 2 := callB_of 2 hts (gd_gi wd_474) rfl rfl rfl (hts _ wd_43) (hts _ hl) (by decide +kernel) hR
theorem cb_W_reach {R : Room} {s : State} {args : Array Value} {own : String} {index : Nat} {rm : Room} (hts : ∀ w ∈ gd_tb, w.before args s = true) (hl : Cond.methodLink own index y_W_reach ∈ gd_tb) (hR : rm.frames + 1 ≤ R.frames ∧ 8 + (3 + 11) + rm.locals ≤ R.locals) : CallB R s args own index y_W_reach b_W_reach 3 none w_W_reach rm rm.cells rm.slots 2 := callB_of 2 hts (gd_gi wd_470) rfl rfl rfl (hts _ wd_43) (hts _ hl) (by decide +kernel) hR
theorem cb_W_otherEnd {R : Room} {s : State} {args : Array Value} {own : String} {index : Nat} {rm : Room} (hts : ∀ w ∈ gd_tb, w.before args s = true) (hl : Cond.methodLink own index y_W_otherEnd ∈ gd_tb) (hR : rm.frames + 1 ≤ R.frames ∧ 8 + (3 + 11) + rm.locals ≤ R.locals) : CallB R s args own index y_W_otherEnd b_W_otherEnd 3 (some .int) w_W_otherEnd rm rm.cells rm.slots 3 := callB_of 3 hts (gd_gi wd_477) rfl rfl rfl (hts _ wd_43) (hts _ hl) (by decide +kernel) hR
theorem cb_R_init {R : Room} {s : State} {args : Array Value} {own : String} {index : Nat} {rm : Room} (hts : ∀ w ∈ gd_tb, w.before args s = true) (hl : Cond.methodLink own index y_R_init ∈ gd_tb) (hR : rm.frames + 1 ≤ R.frames ∧ 8 + (1 + 11) + rm.locals ≤ R.locals) : CallB R s args own index y_R_init b_R_init 1 none w_R_init rm rm.cells rm.slots 0 := callB_of 0 hts (gd_gi wd_207) rfl rfl rfl (hts _ wd_45) (hts _ hl) (by decide +kernel) hR
theorem cb_R_choose {R : Room} {s : State} {args : Array Value} {own : String} {index : Nat} {rm : Room} (hts : ∀ w ∈ gd_tb, w.before args s = true) (hl : Cond.methodLink own index y_R_choose ∈ gd_tb) (hR : rm.frames + 1 ≤ R.frames ∧ 8 + (6 + 11) + rm.locals ≤ R.locals) : CallB R s args own index y_R_choose b_R_choose 6 none w_R_choose rm rm.cells rm.slots 2 := callB_of 2 hts (gd_gi wd_372) rfl rfl rfl (hts _ wd_45) (hts _ hl) (by decide +kernel) hR
theorem cb_R_solve {R : Room} {s : State} {args : Array Value} {own : String} {index : Nat} {rm : Room} (hts : ∀ w ∈ gd_tb, w.before args s = true) (hl : Cond.methodLink own index y_R_solve ∈ gd_tb) (hR : rm.frames + 1 ≤ R.frames ∧ 8 + (2 + 11) + rm.locals ≤ R.locals) : CallB R s args own index y_R_solve b_R_solve 2 (some .long) w_R_solve rm rm.cells rm.slots 1 := callB_of 1 hts (gd_gi wd_395) rfl rfl rfl (hts _ wd_45) (hts _ hl) (by decide +kernel) hR
theorem cb_R_putInOrder {R : Room} {s : State} {args : Array Value} {own : String} {index : Nat} {rm : Room} (hts : ∀ w ∈ gd_tb, w.before args s = true) (hl : Cond.methodLink own index y_R_putInOrder ∈ gd_tb) (hR : rm.frames + 1 ≤ R.frames ∧ 8 + (4 + 11) + rm.locals ≤ R.locals) : CallB R s args own index y_R_putInOrder b_R_putInOrder 4 none w_R_putInOrder rm rm.cells rm.slots 2 := callB_of 2 hts (gd_gi wd_376) rfl rfl rfl (hts _ wd_45) (hts _ hl) (by decide +kernel) hR
theorem cb_R_insert {R : Room} {s : State} {args : Array Value} {own : String} {index : Nat} {rm : Room} (hts : ∀ w ∈ gd_tb, w.before args s = true) (hl : Cond.methodLink own index y_R_insert ∈ gd_tb) (hR : rm.frames + 1 ≤ R.frames ∧ 8 + (3 + 11) + rm.locals ≤ R.locals) : CallB R s args own index y_R_insert b_R_insert 3 none w_R_insert rm rm.cells rm.slots 1 := callB_of 1 hts (gd_gi wd_381) rfl rfl rfl (hts _ wd_45) (hts _ hl) (by decide +kernel) hR
theorem cb_R_reduce {R : Room} {s : State} {args : Array Value} {own : String} {index : Nat} {rm : Room} (hts : ∀ w ∈ gd_tb, w.before args s = true) (hl : Cond.methodLink own index y_R_reduce ∈ gd_tb) (hR : rm.frames + 1 ≤ R.frames ∧ 8 + (5 + 11) + rm.locals ≤ R.locals) : CallB R s args own index y_R_reduce b_R_reduce 5 none w_R_reduce rm rm.cells rm.slots 2 := callB_of 2 hts (gd_gi wd_387) rfl rfl rfl (hts _ wd_45) (hts _ hl) (by decide +kernel) hR
theorem cb_JI_bitCount {R : Room} {s : State} {args : Array Value} {own : String} {index : Nat} {rm : Room} (hts : ∀ w ∈ gd_tb, w.before args s = true) (hl : Cond.methodLink own index y_JI_bitCount ∈ gd_tb) (hR : rm.frames + 1 ≤ R.frames ∧ 8 + (1 + 11) + rm.locals ≤ R.locals) : CallB R s args own index y_JI_bitCount b_JI_bitCount 1 (some .int) w_JI_bitCount rm rm.cells rm.slots 1 := callB_of 1 hts (gd_gi wd_436) rfl rfl rfl (hts _ wd_48) (hts _ hl) (by decide +kernel) hR
theorem cb_JI_numberOfTrailingZeros {R : Room} {s : State} {args : Array Value} {own : String} {index : Nat} {rm : Room} (hts : ∀ w ∈ gd_tb, w.before args s = true) (hl : Cond.methodLink own index y_JI_numberOfTrailingZeros ∈ gd_tb) (hR : rm.frames + 1 ≤ R.frames ∧ 8 + (2 + 11) + rm.locals ≤ R.locals) : CallB R s args own index y_JI_numberOfTrailingZeros b_JI_numberOfTrailingZeros 2 (some .int) w_JI_numberOfTrailingZeros rm rm.cells rm.slots 1 := callB_of 1 hts (gd_gi wd_390) rfl rfl rfl (hts _ wd_48) (hts _ hl) (by decide +kernel) hR
theorem cb_JA_fill {R : Room} {s : State} {args : Array Value} {own : String} {index : Nat} {rm : Room} (hts : ∀ w ∈ gd_tb, w.before args s = true) (hl : Cond.methodLink own index y_JA_fill ∈ gd_tb) (hR : rm.frames + 1 ≤ R.frames ∧ 8 + (4 + 11) + rm.locals ≤ R.locals) : CallB R s args own index y_JA_fill b_JA_fill 4 none w_JA_fill rm rm.cells rm.slots 2 := callB_of 2 hts (gd_gi wd_311) rfl rfl rfl (hts _ wd_47) (hts _ hl) (by decide +kernel) hR
