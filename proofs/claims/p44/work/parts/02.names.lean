-- ===== PART A: goes FIRST, ahead of the names: the tables' words, and 'selects' of the private methods out of them =====
/-- a private method of a class that the tables say can be made, by its rows of tables_1 -/
def lw_okq (q : MethodName × Nat) : Prop := (q.1.cls ≠ "java/lang/invoke/MethodHandle" ∧ q.1.cls ≠ "java/lang/invoke/VarHandle") ∧ Cond.instantiable q.1.cls q.2 ∈ tables_1 ∧ Cond.privateMethod q.1 ∈ tables_1 ∧ Cond.instanceMethod q.1 ∈ tables_1
theorem lw_p0 : lw_okq (⟨"PairKeeper$Pairs", "clear", "()V"⟩, 2) := ⟨⟨by decide +kernel, by decide +kernel⟩, List.mem_of_getElem? (i := 39) (by decide +kernel), List.mem_of_getElem? (i := 45) (by decide +kernel), List.mem_of_getElem? (i := 46) (by decide +kernel)⟩
theorem lw_p1 : lw_okq (⟨"PairKeeper$Book", "begin", "(II)V"⟩, 10) := ⟨⟨by decide +kernel, by decide +kernel⟩, List.mem_of_getElem? (i := 33) (by decide +kernel), List.mem_of_getElem? (i := 57) (by decide +kernel), List.mem_of_getElem? (i := 58) (by decide +kernel)⟩
theorem lw_p2 : lw_okq (⟨"PairKeeper$Book", "tradeGain", "(II)I"⟩, 10) := ⟨⟨by decide +kernel, by decide +kernel⟩, List.mem_of_getElem? (i := 33) (by decide +kernel), List.mem_of_getElem? (i := 379) (by decide +kernel), List.mem_of_getElem? (i := 380) (by decide +kernel)⟩
theorem lw_p3 : lw_okq (⟨"PairKeeper$Pairs", "taskOf", "(I)I"⟩, 2) := ⟨⟨by decide +kernel, by decide +kernel⟩, List.mem_of_getElem? (i := 39) (by decide +kernel), List.mem_of_getElem? (i := 383) (by decide +kernel), List.mem_of_getElem? (i := 384) (by decide +kernel)⟩
theorem lw_p4 : lw_okq (⟨"PairKeeper$Book", "isFit", "(II)Z"⟩, 10) := ⟨⟨by decide +kernel, by decide +kernel⟩, List.mem_of_getElem? (i := 33) (by decide +kernel), List.mem_of_getElem? (i := 387) (by decide +kernel), List.mem_of_getElem? (i := 388) (by decide +kernel)⟩
theorem lw_p5 : lw_okq (⟨"PairKeeper$Book", "costOf", "(II)I"⟩, 10) := ⟨⟨by decide +kernel, by decide +kernel⟩, List.mem_of_getElem? (i := 33) (by decide +kernel), List.mem_of_getElem? (i := 391) (by decide +kernel), List.mem_of_getElem? (i := 392) (by decide +kernel)⟩
theorem lw_p6 : lw_okq (⟨"PairKeeper", "beginAct", "()V"⟩, 12) := ⟨⟨by decide +kernel, by decide +kernel⟩, List.mem_of_getElem? (i := 25) (by decide +kernel), List.mem_of_getElem? (i := 398) (by decide +kernel), List.mem_of_getElem? (i := 399) (by decide +kernel)⟩
theorem lw_p7 : lw_okq (⟨"PairKeeper$History", "save", "(LPairKeeper$Book;)V"⟩, 3) := ⟨⟨by decide +kernel, by decide +kernel⟩, List.mem_of_getElem? (i := 113) (by decide +kernel), List.mem_of_getElem? (i := 402) (by decide +kernel), List.mem_of_getElem? (i := 403) (by decide +kernel)⟩
theorem lw_p8 : lw_okq (⟨"PairKeeper$History", "bookAt", "(I)LPairKeeper$Book;"⟩, 3) := ⟨⟨by decide +kernel, by decide +kernel⟩, List.mem_of_getElem? (i := 113) (by decide +kernel), List.mem_of_getElem? (i := 406) (by decide +kernel), List.mem_of_getElem? (i := 407) (by decide +kernel)⟩
theorem lw_p9 : lw_okq (⟨"PairKeeper$Book", "copy", "(LPairKeeper$Book;)V"⟩, 10) := ⟨⟨by decide +kernel, by decide +kernel⟩, List.mem_of_getElem? (i := 33) (by decide +kernel), List.mem_of_getElem? (i := 410) (by decide +kernel), List.mem_of_getElem? (i := 411) (by decide +kernel)⟩
theorem lw_p10 : lw_okq (⟨"PairKeeper$Pairs", "copy", "(LPairKeeper$Pairs;)V"⟩, 2) := ⟨⟨by decide +kernel, by decide +kernel⟩, List.mem_of_getElem? (i := 39) (by decide +kernel), List.mem_of_getElem? (i := 417) (by decide +kernel), List.mem_of_getElem? (i := 418) (by decide +kernel)⟩
theorem lw_p11 : lw_okq (⟨"PairKeeper$Pairs", "swap", "(II)V"⟩, 2) := ⟨⟨by decide +kernel, by decide +kernel⟩, List.mem_of_getElem? (i := 39) (by decide +kernel), List.mem_of_getElem? (i := 421) (by decide +kernel), List.mem_of_getElem? (i := 422) (by decide +kernel)⟩
theorem lw_p12 : lw_okq (⟨"PairKeeper$Pairs", "join", "(II)V"⟩, 2) := ⟨⟨by decide +kernel, by decide +kernel⟩, List.mem_of_getElem? (i := 39) (by decide +kernel), List.mem_of_getElem? (i := 426) (by decide +kernel), List.mem_of_getElem? (i := 427) (by decide +kernel)⟩
theorem lw_p13 : lw_okq (⟨"PairKeeper$History", "takeBack", "(LPairKeeper$Book;)Z"⟩, 3) := ⟨⟨by decide +kernel, by decide +kernel⟩, List.mem_of_getElem? (i := 113) (by decide +kernel), List.mem_of_getElem? (i := 435) (by decide +kernel), List.mem_of_getElem? (i := 436) (by decide +kernel)⟩
theorem lw_p14 : lw_okq (⟨"PairKeeperLaw$Book", "goes", "([IIIII)Z"⟩, 8) := ⟨⟨by decide +kernel, by decide +kernel⟩, List.mem_of_getElem? (i := 439) (by decide +kernel), List.mem_of_getElem? (i := 517) (by decide +kernel), List.mem_of_getElem? (i := 518) (by decide +kernel)⟩
theorem lw_p15 : lw_okq (⟨"PairKeeper", "demand", "(Z)V"⟩, 12) := ⟨⟨by decide +kernel, by decide +kernel⟩, List.mem_of_getElem? (i := 25) (by decide +kernel), List.mem_of_getElem? (i := 535) (by decide +kernel), List.mem_of_getElem? (i := 536) (by decide +kernel)⟩
def lw_privs_1 : List (MethodName × Nat) := [(⟨"PairKeeper$Pairs", "clear", "()V"⟩, 2), (⟨"PairKeeper$Book", "begin", "(II)V"⟩, 10), (⟨"PairKeeper$Book", "tradeGain", "(II)I"⟩, 10), (⟨"PairKeeper$Pairs", "taskOf", "(I)I"⟩, 2), (⟨"PairKeeper$Book", "isFit", "(II)Z"⟩, 10), (⟨"PairKeeper$Book", "costOf", "(II)I"⟩, 10), (⟨"PairKeeper", "beginAct", "()V"⟩, 12), (⟨"PairKeeper$History", "save", "(LPairKeeper$Book;)V"⟩, 3), (⟨"PairKeeper$History", "bookAt", "(I)LPairKeeper$Book;"⟩, 3), (⟨"PairKeeper$Book", "copy", "(LPairKeeper$Book;)V"⟩, 10), (⟨"PairKeeper$Pairs", "copy", "(LPairKeeper$Pairs;)V"⟩, 2), (⟨"PairKeeper$Pairs", "swap", "(II)V"⟩, 2), (⟨"PairKeeper$Pairs", "join", "(II)V"⟩, 2), (⟨"PairKeeper$History", "takeBack", "(LPairKeeper$Book;)Z"⟩, 3), (⟨"PairKeeperLaw$Book", "goes", "([IIIII)Z"⟩, 8), (⟨"PairKeeper", "demand", "(Z)V"⟩, 12)]
theorem lw_r1 : ∀ q ∈ lw_privs_1, lw_okq q := List.forall_mem_cons.mpr ⟨lw_p0, List.forall_mem_cons.mpr ⟨lw_p1, List.forall_mem_cons.mpr ⟨lw_p2, List.forall_mem_cons.mpr ⟨lw_p3, List.forall_mem_cons.mpr ⟨lw_p4, List.forall_mem_cons.mpr ⟨lw_p5, List.forall_mem_cons.mpr ⟨lw_p6, List.forall_mem_cons.mpr ⟨lw_p7, List.forall_mem_cons.mpr ⟨lw_p8, List.forall_mem_cons.mpr ⟨lw_p9, List.forall_mem_cons.mpr ⟨lw_p10, List.forall_mem_cons.mpr ⟨lw_p11, List.forall_mem_cons.mpr ⟨lw_p12, List.forall_mem_cons.mpr ⟨lw_p13, List.forall_mem_cons.mpr ⟨lw_p14, List.forall_mem_cons.mpr ⟨lw_p15, fun _ h => absurd h List.not_mem_nil⟩⟩⟩⟩⟩⟩⟩⟩⟩⟩⟩⟩⟩⟩⟩⟩
theorem lw_p16 : lw_okq (⟨"java/lang/Throwable", "fillInStackTrace", "(I)Ljava/lang/Throwable;"⟩, 6) := ⟨⟨by decide +kernel, by decide +kernel⟩, List.mem_of_getElem? (i := 576) (by decide +kernel), List.mem_of_getElem? (i := 574) (by decide +kernel), List.mem_of_getElem? (i := 575) (by decide +kernel)⟩
theorem lw_p17 : lw_okq (⟨"PairKeeper$Reader", "read", "(ILPairKeeper$Book;)I"⟩, 8) := ⟨⟨by decide +kernel, by decide +kernel⟩, List.mem_of_getElem? (i := 133) (by decide +kernel), List.mem_of_getElem? (i := 606) (by decide +kernel), List.mem_of_getElem? (i := 607) (by decide +kernel)⟩
theorem lw_p18 : lw_okq (⟨"PairKeeper$Reader", "readHead", "(LPairKeeper$Book;)Z"⟩, 8) := ⟨⟨by decide +kernel, by decide +kernel⟩, List.mem_of_getElem? (i := 133) (by decide +kernel), List.mem_of_getElem? (i := 610) (by decide +kernel), List.mem_of_getElem? (i := 611) (by decide +kernel)⟩
theorem lw_p19 : lw_okq (⟨"PairKeeper$Reader", "readWord", "(Ljava/lang/String;)Z"⟩, 8) := ⟨⟨by decide +kernel, by decide +kernel⟩, List.mem_of_getElem? (i := 133) (by decide +kernel), List.mem_of_getElem? (i := 615) (by decide +kernel), List.mem_of_getElem? (i := 616) (by decide +kernel)⟩
theorem lw_p20 : lw_okq (⟨"PairKeeper$Reader", "takeWord", "()V"⟩, 8) := ⟨⟨by decide +kernel, by decide +kernel⟩, List.mem_of_getElem? (i := 133) (by decide +kernel), List.mem_of_getElem? (i := 619) (by decide +kernel), List.mem_of_getElem? (i := 620) (by decide +kernel)⟩
theorem lw_p21 : lw_okq (⟨"PairKeeper$Reader", "skipBlanks", "()V"⟩, 8) := ⟨⟨by decide +kernel, by decide +kernel⟩, List.mem_of_getElem? (i := 133) (by decide +kernel), List.mem_of_getElem? (i := 623) (by decide +kernel), List.mem_of_getElem? (i := 624) (by decide +kernel)⟩
theorem lw_p22 : lw_okq (⟨"PairKeeper$Reader", "byteAt", "(I)I"⟩, 8) := ⟨⟨by decide +kernel, by decide +kernel⟩, List.mem_of_getElem? (i := 133) (by decide +kernel), List.mem_of_getElem? (i := 627) (by decide +kernel), List.mem_of_getElem? (i := 628) (by decide +kernel)⟩
theorem lw_p23 : lw_okq (⟨"PairKeeper$Reader", "wordIs", "(Ljava/lang/String;)Z"⟩, 8) := ⟨⟨by decide +kernel, by decide +kernel⟩, List.mem_of_getElem? (i := 133) (by decide +kernel), List.mem_of_getElem? (i := 631) (by decide +kernel), List.mem_of_getElem? (i := 632) (by decide +kernel)⟩
theorem lw_p24 : lw_okq (⟨"PairKeeper$Reader", "isFault", "(II)Z"⟩, 8) := ⟨⟨by decide +kernel, by decide +kernel⟩, List.mem_of_getElem? (i := 133) (by decide +kernel), List.mem_of_getElem? (i := 683) (by decide +kernel), List.mem_of_getElem? (i := 684) (by decide +kernel)⟩
theorem lw_p25 : lw_okq (⟨"PairKeeper$Reader", "readNumber", "(II)Z"⟩, 8) := ⟨⟨by decide +kernel, by decide +kernel⟩, List.mem_of_getElem? (i := 133) (by decide +kernel), List.mem_of_getElem? (i := 687) (by decide +kernel), List.mem_of_getElem? (i := 688) (by decide +kernel)⟩
theorem lw_p26 : lw_okq (⟨"PairKeeper$Reader", "value", "()I"⟩, 8) := ⟨⟨by decide +kernel, by decide +kernel⟩, List.mem_of_getElem? (i := 133) (by decide +kernel), List.mem_of_getElem? (i := 694) (by decide +kernel), List.mem_of_getElem? (i := 695) (by decide +kernel)⟩
theorem lw_p27 : lw_okq (⟨"PairKeeper$Reader", "readEnd", "()Z"⟩, 8) := ⟨⟨by decide +kernel, by decide +kernel⟩, List.mem_of_getElem? (i := 133) (by decide +kernel), List.mem_of_getElem? (i := 701) (by decide +kernel), List.mem_of_getElem? (i := 702) (by decide +kernel)⟩
theorem lw_p28 : lw_okq (⟨"PairKeeper$Reader", "moreStands", "()Z"⟩, 8) := ⟨⟨by decide +kernel, by decide +kernel⟩, List.mem_of_getElem? (i := 133) (by decide +kernel), List.mem_of_getElem? (i := 707) (by decide +kernel), List.mem_of_getElem? (i := 708) (by decide +kernel)⟩
theorem lw_p29 : lw_okq (⟨"PairKeeper$Reader", "readLine", "(LPairKeeper$Book;)Z"⟩, 8) := ⟨⟨by decide +kernel, by decide +kernel⟩, List.mem_of_getElem? (i := 133) (by decide +kernel), List.mem_of_getElem? (i := 711) (by decide +kernel), List.mem_of_getElem? (i := 712) (by decide +kernel)⟩
theorem lw_p30 : lw_okq (⟨"PairKeeper$Reader", "readFit", "(LPairKeeper$Book;)Z"⟩, 8) := ⟨⟨by decide +kernel, by decide +kernel⟩, List.mem_of_getElem? (i := 133) (by decide +kernel), List.mem_of_getElem? (i := 716) (by decide +kernel), List.mem_of_getElem? (i := 717) (by decide +kernel)⟩
theorem lw_p31 : lw_okq (⟨"PairKeeper$Book", "setFit", "(III)V"⟩, 10) := ⟨⟨by decide +kernel, by decide +kernel⟩, List.mem_of_getElem? (i := 33) (by decide +kernel), List.mem_of_getElem? (i := 720) (by decide +kernel), List.mem_of_getElem? (i := 721) (by decide +kernel)⟩
def lw_privs_2 : List (MethodName × Nat) := [(⟨"java/lang/Throwable", "fillInStackTrace", "(I)Ljava/lang/Throwable;"⟩, 6), (⟨"PairKeeper$Reader", "read", "(ILPairKeeper$Book;)I"⟩, 8), (⟨"PairKeeper$Reader", "readHead", "(LPairKeeper$Book;)Z"⟩, 8), (⟨"PairKeeper$Reader", "readWord", "(Ljava/lang/String;)Z"⟩, 8), (⟨"PairKeeper$Reader", "takeWord", "()V"⟩, 8), (⟨"PairKeeper$Reader", "skipBlanks", "()V"⟩, 8), (⟨"PairKeeper$Reader", "byteAt", "(I)I"⟩, 8), (⟨"PairKeeper$Reader", "wordIs", "(Ljava/lang/String;)Z"⟩, 8), (⟨"PairKeeper$Reader", "isFault", "(II)Z"⟩, 8), (⟨"PairKeeper$Reader", "readNumber", "(II)Z"⟩, 8), (⟨"PairKeeper$Reader", "value", "()I"⟩, 8), (⟨"PairKeeper$Reader", "readEnd", "()Z"⟩, 8), (⟨"PairKeeper$Reader", "moreStands", "()Z"⟩, 8), (⟨"PairKeeper$Reader", "readLine", "(LPairKeeper$Book;)Z"⟩, 8), (⟨"PairKeeper$Reader", "readFit", "(LPairKeeper$Book;)Z"⟩, 8), (⟨"PairKeeper$Book", "setFit", "(III)V"⟩, 10)]
theorem lw_r2 : ∀ q ∈ lw_privs_2, lw_okq q := List.forall_mem_cons.mpr ⟨lw_p16, List.forall_mem_cons.mpr ⟨lw_p17, List.forall_mem_cons.mpr ⟨lw_p18, List.forall_mem_cons.mpr ⟨lw_p19, List.forall_mem_cons.mpr ⟨lw_p20, List.forall_mem_cons.mpr ⟨lw_p21, List.forall_mem_cons.mpr ⟨lw_p22, List.forall_mem_cons.mpr ⟨lw_p23, List.forall_mem_cons.mpr ⟨lw_p24, List.forall_mem_cons.mpr ⟨lw_p25, List.forall_mem_cons.mpr ⟨lw_p26, List.forall_mem_cons.mpr ⟨lw_p27, List.forall_mem_cons.mpr ⟨lw_p28, List.forall_mem_cons.mpr ⟨lw_p29, List.forall_mem_cons.mpr ⟨lw_p30, List.forall_mem_cons.mpr ⟨lw_p31, fun _ h => absurd h List.not_mem_nil⟩⟩⟩⟩⟩⟩⟩⟩⟩⟩⟩⟩⟩⟩⟩⟩
theorem lw_p32 : lw_okq (⟨"PairKeeper$Reader", "readAway", "(LPairKeeper$Book;)Z"⟩, 8) := ⟨⟨by decide +kernel, by decide +kernel⟩, List.mem_of_getElem? (i := 133) (by decide +kernel), List.mem_of_getElem? (i := 725) (by decide +kernel), List.mem_of_getElem? (i := 726) (by decide +kernel)⟩
theorem lw_p33 : lw_okq (⟨"PairKeeper$Book", "isFree", "(II)Z"⟩, 10) := ⟨⟨by decide +kernel, by decide +kernel⟩, List.mem_of_getElem? (i := 33) (by decide +kernel), List.mem_of_getElem? (i := 731) (by decide +kernel), List.mem_of_getElem? (i := 732) (by decide +kernel)⟩
theorem lw_p34 : lw_okq (⟨"PairKeeper$Book", "isThere", "(II)Z"⟩, 10) := ⟨⟨by decide +kernel, by decide +kernel⟩, List.mem_of_getElem? (i := 33) (by decide +kernel), List.mem_of_getElem? (i := 735) (by decide +kernel), List.mem_of_getElem? (i := 736) (by decide +kernel)⟩
theorem lw_p35 : lw_okq (⟨"PairKeeper$Book", "knows", "(II)Z"⟩, 10) := ⟨⟨by decide +kernel, by decide +kernel⟩, List.mem_of_getElem? (i := 33) (by decide +kernel), List.mem_of_getElem? (i := 739) (by decide +kernel), List.mem_of_getElem? (i := 740) (by decide +kernel)⟩
theorem lw_p36 : lw_okq (⟨"PairKeeper$Book", "partnerOf", "(II)I"⟩, 10) := ⟨⟨by decide +kernel, by decide +kernel⟩, List.mem_of_getElem? (i := 33) (by decide +kernel), List.mem_of_getElem? (i := 746) (by decide +kernel), List.mem_of_getElem? (i := 747) (by decide +kernel)⟩
theorem lw_p37 : lw_okq (⟨"PairKeeper$Pairs", "workerOf", "(I)I"⟩, 2) := ⟨⟨by decide +kernel, by decide +kernel⟩, List.mem_of_getElem? (i := 39) (by decide +kernel), List.mem_of_getElem? (i := 750) (by decide +kernel), List.mem_of_getElem? (i := 751) (by decide +kernel)⟩
theorem lw_p38 : lw_okq (⟨"PairKeeper$Book", "setThere", "(IIZ)V"⟩, 10) := ⟨⟨by decide +kernel, by decide +kernel⟩, List.mem_of_getElem? (i := 33) (by decide +kernel), List.mem_of_getElem? (i := 754) (by decide +kernel), List.mem_of_getElem? (i := 755) (by decide +kernel)⟩
theorem lw_p39 : lw_okq (⟨"PairKeeper$Pairs", "loosenWorker", "(I)V"⟩, 2) := ⟨⟨by decide +kernel, by decide +kernel⟩, List.mem_of_getElem? (i := 39) (by decide +kernel), List.mem_of_getElem? (i := 758) (by decide +kernel), List.mem_of_getElem? (i := 759) (by decide +kernel)⟩
theorem lw_p40 : lw_okq (⟨"PairKeeper$Pairs", "loosenTask", "(I)V"⟩, 2) := ⟨⟨by decide +kernel, by decide +kernel⟩, List.mem_of_getElem? (i := 39) (by decide +kernel), List.mem_of_getElem? (i := 762) (by decide +kernel), List.mem_of_getElem? (i := 763) (by decide +kernel)⟩
theorem lw_p41 : lw_okq (⟨"PairKeeper$Reader", "readPair", "(LPairKeeper$Book;)Z"⟩, 8) := ⟨⟨by decide +kernel, by decide +kernel⟩, List.mem_of_getElem? (i := 133) (by decide +kernel), List.mem_of_getElem? (i := 769) (by decide +kernel), List.mem_of_getElem? (i := 770) (by decide +kernel)⟩
theorem lw_p42 : lw_okq (⟨"PairKeeper$Reader", "readWeight", "(LPairKeeper$Book;)Z"⟩, 8) := ⟨⟨by decide +kernel, by decide +kernel⟩, List.mem_of_getElem? (i := 133) (by decide +kernel), List.mem_of_getElem? (i := 776) (by decide +kernel), List.mem_of_getElem? (i := 777) (by decide +kernel)⟩
theorem lw_p43 : lw_okq (⟨"PairKeeper$Book", "setWeight", "(II)V"⟩, 10) := ⟨⟨by decide +kernel, by decide +kernel⟩, List.mem_of_getElem? (i := 33) (by decide +kernel), List.mem_of_getElem? (i := 780) (by decide +kernel), List.mem_of_getElem? (i := 781) (by decide +kernel)⟩
theorem lw_p44 : lw_okq (⟨"PairKeeper$Reader", "readKeep", "(LPairKeeper$Book;)Z"⟩, 8) := ⟨⟨by decide +kernel, by decide +kernel⟩, List.mem_of_getElem? (i := 133) (by decide +kernel), List.mem_of_getElem? (i := 785) (by decide +kernel), List.mem_of_getElem? (i := 786) (by decide +kernel)⟩
theorem lw_p45 : lw_okq (⟨"PairKeeper", "keepUp", "()V"⟩, 12) := ⟨⟨by decide +kernel, by decide +kernel⟩, List.mem_of_getElem? (i := 25) (by decide +kernel), List.mem_of_getElem? (i := 790) (by decide +kernel), List.mem_of_getElem? (i := 791) (by decide +kernel)⟩
theorem lw_p46 : lw_okq (⟨"PairKeeper$Search", "load", "(LPairKeeper$Book;)V"⟩, 10) := ⟨⟨by decide +kernel, by decide +kernel⟩, List.mem_of_getElem? (i := 165) (by decide +kernel), List.mem_of_getElem? (i := 794) (by decide +kernel), List.mem_of_getElem? (i := 795) (by decide +kernel)⟩
theorem lw_p47 : lw_okq (⟨"PairKeeper$Book", "tasksFor", "(I)I"⟩, 10) := ⟨⟨by decide +kernel, by decide +kernel⟩, List.mem_of_getElem? (i := 33) (by decide +kernel), List.mem_of_getElem? (i := 800) (by decide +kernel), List.mem_of_getElem? (i := 801) (by decide +kernel)⟩
def lw_privs_3 : List (MethodName × Nat) := [(⟨"PairKeeper$Reader", "readAway", "(LPairKeeper$Book;)Z"⟩, 8), (⟨"PairKeeper$Book", "isFree", "(II)Z"⟩, 10), (⟨"PairKeeper$Book", "isThere", "(II)Z"⟩, 10), (⟨"PairKeeper$Book", "knows", "(II)Z"⟩, 10), (⟨"PairKeeper$Book", "partnerOf", "(II)I"⟩, 10), (⟨"PairKeeper$Pairs", "workerOf", "(I)I"⟩, 2), (⟨"PairKeeper$Book", "setThere", "(IIZ)V"⟩, 10), (⟨"PairKeeper$Pairs", "loosenWorker", "(I)V"⟩, 2), (⟨"PairKeeper$Pairs", "loosenTask", "(I)V"⟩, 2), (⟨"PairKeeper$Reader", "readPair", "(LPairKeeper$Book;)Z"⟩, 8), (⟨"PairKeeper$Reader", "readWeight", "(LPairKeeper$Book;)Z"⟩, 8), (⟨"PairKeeper$Book", "setWeight", "(II)V"⟩, 10), (⟨"PairKeeper$Reader", "readKeep", "(LPairKeeper$Book;)Z"⟩, 8), (⟨"PairKeeper", "keepUp", "()V"⟩, 12), (⟨"PairKeeper$Search", "load", "(LPairKeeper$Book;)V"⟩, 10), (⟨"PairKeeper$Book", "tasksFor", "(I)I"⟩, 10)]
theorem lw_r3 : ∀ q ∈ lw_privs_3, lw_okq q := List.forall_mem_cons.mpr ⟨lw_p32, List.forall_mem_cons.mpr ⟨lw_p33, List.forall_mem_cons.mpr ⟨lw_p34, List.forall_mem_cons.mpr ⟨lw_p35, List.forall_mem_cons.mpr ⟨lw_p36, List.forall_mem_cons.mpr ⟨lw_p37, List.forall_mem_cons.mpr ⟨lw_p38, List.forall_mem_cons.mpr ⟨lw_p39, List.forall_mem_cons.mpr ⟨lw_p40, List.forall_mem_cons.mpr ⟨lw_p41, List.forall_mem_cons.mpr ⟨lw_p42, List.forall_mem_cons.mpr ⟨lw_p43, List.forall_mem_cons.mpr ⟨lw_p44, List.forall_mem_cons.mpr ⟨lw_p45, List.forall_mem_cons.mpr ⟨lw_p46, List.forall_mem_cons.mpr ⟨lw_p47, fun _ h => absurd h List.not_mem_nil⟩⟩⟩⟩⟩⟩⟩⟩⟩⟩⟩⟩⟩⟩⟩⟩
theorem lw_p48 : lw_okq (⟨"PairKeeper$Search", "grow", "(I)I"⟩, 10) := ⟨⟨by decide +kernel, by decide +kernel⟩, List.mem_of_getElem? (i := 165) (by decide +kernel), List.mem_of_getElem? (i := 805) (by decide +kernel), List.mem_of_getElem? (i := 806) (by decide +kernel)⟩
theorem lw_p49 : lw_okq (⟨"PairKeeper$Search", "find", "(I)I"⟩, 10) := ⟨⟨by decide +kernel, by decide +kernel⟩, List.mem_of_getElem? (i := 165) (by decide +kernel), List.mem_of_getElem? (i := 809) (by decide +kernel), List.mem_of_getElem? (i := 810) (by decide +kernel)⟩
theorem lw_p50 : lw_okq (⟨"PairKeeper$Search", "row", "(I)I"⟩, 10) := ⟨⟨by decide +kernel, by decide +kernel⟩, List.mem_of_getElem? (i := 165) (by decide +kernel), List.mem_of_getElem? (i := 815) (by decide +kernel), List.mem_of_getElem? (i := 816) (by decide +kernel)⟩
theorem lw_p51 : lw_okq (⟨"PairKeeper$Search", "trace", "(I)V"⟩, 10) := ⟨⟨by decide +kernel, by decide +kernel⟩, List.mem_of_getElem? (i := 165) (by decide +kernel), List.mem_of_getElem? (i := 821) (by decide +kernel), List.mem_of_getElem? (i := 822) (by decide +kernel)⟩
theorem lw_p52 : lw_okq (⟨"PairKeeper$Search", "follow", "()V"⟩, 10) := ⟨⟨by decide +kernel, by decide +kernel⟩, List.mem_of_getElem? (i := 165) (by decide +kernel), List.mem_of_getElem? (i := 825) (by decide +kernel), List.mem_of_getElem? (i := 826) (by decide +kernel)⟩
theorem lw_p53 : lw_okq (⟨"PairKeeper$Search", "wayAtPlace", "(I)I"⟩, 10) := ⟨⟨by decide +kernel, by decide +kernel⟩, List.mem_of_getElem? (i := 165) (by decide +kernel), List.mem_of_getElem? (i := 829) (by decide +kernel), List.mem_of_getElem? (i := 830) (by decide +kernel)⟩
theorem lw_p54 : lw_okq (⟨"PairKeeper$Pairs", "size", "()I"⟩, 2) := ⟨⟨by decide +kernel, by decide +kernel⟩, List.mem_of_getElem? (i := 39) (by decide +kernel), List.mem_of_getElem? (i := 835) (by decide +kernel), List.mem_of_getElem? (i := 836) (by decide +kernel)⟩
theorem lw_p55 : lw_okq (⟨"PairKeeper$Pairs", "workersIn", "()I"⟩, 2) := ⟨⟨by decide +kernel, by decide +kernel⟩, List.mem_of_getElem? (i := 39) (by decide +kernel), List.mem_of_getElem? (i := 839) (by decide +kernel), List.mem_of_getElem? (i := 840) (by decide +kernel)⟩
theorem lw_p56 : lw_okq (⟨"PairKeeper$Book", "fitCount", "()I"⟩, 10) := ⟨⟨by decide +kernel, by decide +kernel⟩, List.mem_of_getElem? (i := 33) (by decide +kernel), List.mem_of_getElem? (i := 858) (by decide +kernel), List.mem_of_getElem? (i := 859) (by decide +kernel)⟩
theorem lw_p57 : lw_okq (⟨"PairKeeper$Pairs", "tasksIn", "()I"⟩, 2) := ⟨⟨by decide +kernel, by decide +kernel⟩, List.mem_of_getElem? (i := 39) (by decide +kernel), List.mem_of_getElem? (i := 864) (by decide +kernel), List.mem_of_getElem? (i := 865) (by decide +kernel)⟩
theorem lw_p58 : lw_okq (⟨"PairKeeper$Book", "pairCost", "()I"⟩, 10) := ⟨⟨by decide +kernel, by decide +kernel⟩, List.mem_of_getElem? (i := 33) (by decide +kernel), List.mem_of_getElem? (i := 868) (by decide +kernel), List.mem_of_getElem? (i := 869) (by decide +kernel)⟩
theorem lw_p59 : lw_okq (⟨"PairKeeper", "demandPlace", "(Z)V"⟩, 12) := ⟨⟨by decide +kernel, by decide +kernel⟩, List.mem_of_getElem? (i := 25) (by decide +kernel), List.mem_of_getElem? (i := 881) (by decide +kernel), List.mem_of_getElem? (i := 882) (by decide +kernel)⟩
theorem lw_p60 : lw_okq (⟨"PairKeeper$Book", "knowsBoth", "(II)Z"⟩, 10) := ⟨⟨by decide +kernel, by decide +kernel⟩, List.mem_of_getElem? (i := 33) (by decide +kernel), List.mem_of_getElem? (i := 910) (by decide +kernel), List.mem_of_getElem? (i := 911) (by decide +kernel)⟩
theorem lw_p61 : lw_okq (⟨"PairKeeper", "runPhases", "()V"⟩, 12) := ⟨⟨by decide +kernel, by decide +kernel⟩, List.mem_of_getElem? (i := 25) (by decide +kernel), List.mem_of_getElem? (i := 930) (by decide +kernel), List.mem_of_getElem? (i := 931) (by decide +kernel)⟩
theorem lw_p62 : lw_okq (⟨"PairKeeper$Phasing", "run", "(LPairKeeper$Search;)V"⟩, 9) := ⟨⟨by decide +kernel, by decide +kernel⟩, List.mem_of_getElem? (i := 239) (by decide +kernel), List.mem_of_getElem? (i := 934) (by decide +kernel), List.mem_of_getElem? (i := 935) (by decide +kernel)⟩
theorem lw_p63 : lw_okq (⟨"PairKeeper$Phasing", "makeLayers", "(LPairKeeper$Search;)Z"⟩, 9) := ⟨⟨by decide +kernel, by decide +kernel⟩, List.mem_of_getElem? (i := 239) (by decide +kernel), List.mem_of_getElem? (i := 939) (by decide +kernel), List.mem_of_getElem? (i := 940) (by decide +kernel)⟩
def lw_privs_4 : List (MethodName × Nat) := [(⟨"PairKeeper$Search", "grow", "(I)I"⟩, 10), (⟨"PairKeeper$Search", "find", "(I)I"⟩, 10), (⟨"PairKeeper$Search", "row", "(I)I"⟩, 10), (⟨"PairKeeper$Search", "trace", "(I)V"⟩, 10), (⟨"PairKeeper$Search", "follow", "()V"⟩, 10), (⟨"PairKeeper$Search", "wayAtPlace", "(I)I"⟩, 10), (⟨"PairKeeper$Pairs", "size", "()I"⟩, 2), (⟨"PairKeeper$Pairs", "workersIn", "()I"⟩, 2), (⟨"PairKeeper$Book", "fitCount", "()I"⟩, 10), (⟨"PairKeeper$Pairs", "tasksIn", "()I"⟩, 2), (⟨"PairKeeper$Book", "pairCost", "()I"⟩, 10), (⟨"PairKeeper", "demandPlace", "(Z)V"⟩, 12), (⟨"PairKeeper$Book", "knowsBoth", "(II)Z"⟩, 10), (⟨"PairKeeper", "runPhases", "()V"⟩, 12), (⟨"PairKeeper$Phasing", "run", "(LPairKeeper$Search;)V"⟩, 9), (⟨"PairKeeper$Phasing", "makeLayers", "(LPairKeeper$Search;)Z"⟩, 9)]
theorem lw_r4 : ∀ q ∈ lw_privs_4, lw_okq q := List.forall_mem_cons.mpr ⟨lw_p48, List.forall_mem_cons.mpr ⟨lw_p49, List.forall_mem_cons.mpr ⟨lw_p50, List.forall_mem_cons.mpr ⟨lw_p51, List.forall_mem_cons.mpr ⟨lw_p52, List.forall_mem_cons.mpr ⟨lw_p53, List.forall_mem_cons.mpr ⟨lw_p54, List.forall_mem_cons.mpr ⟨lw_p55, List.forall_mem_cons.mpr ⟨lw_p56, List.forall_mem_cons.mpr ⟨lw_p57, List.forall_mem_cons.mpr ⟨lw_p58, List.forall_mem_cons.mpr ⟨lw_p59, List.forall_mem_cons.mpr ⟨lw_p60, List.forall_mem_cons.mpr ⟨lw_p61, List.forall_mem_cons.mpr ⟨lw_p62, List.forall_mem_cons.mpr ⟨lw_p63, fun _ h => absurd h List.not_mem_nil⟩⟩⟩⟩⟩⟩⟩⟩⟩⟩⟩⟩⟩⟩⟩⟩
theorem lw_p64 : lw_okq (⟨"PairKeeper$Phasing", "nextTasks", "(LPairKeeper$Search;I)I"⟩, 9) := ⟨⟨by decide +kernel, by decide +kernel⟩, List.mem_of_getElem? (i := 239) (by decide +kernel), List.mem_of_getElem? (i := 945) (by decide +kernel), List.mem_of_getElem? (i := 946) (by decide +kernel)⟩
theorem lw_p65 : lw_okq (⟨"PairKeeper$Phasing", "layerOfWorker", "(I)I"⟩, 9) := ⟨⟨by decide +kernel, by decide +kernel⟩, List.mem_of_getElem? (i := 239) (by decide +kernel), List.mem_of_getElem? (i := 953) (by decide +kernel), List.mem_of_getElem? (i := 954) (by decide +kernel)⟩
theorem lw_p66 : lw_okq (⟨"PairKeeper$Phasing", "seek", "(LPairKeeper$Search;I)Z"⟩, 9) := ⟨⟨by decide +kernel, by decide +kernel⟩, List.mem_of_getElem? (i := 239) (by decide +kernel), List.mem_of_getElem? (i := 958) (by decide +kernel), List.mem_of_getElem? (i := 959) (by decide +kernel)⟩
theorem lw_p67 : lw_okq (⟨"PairKeeper$Phasing", "nextTask", "(LPairKeeper$Search;I)I"⟩, 9) := ⟨⟨by decide +kernel, by decide +kernel⟩, List.mem_of_getElem? (i := 239) (by decide +kernel), List.mem_of_getElem? (i := 962) (by decide +kernel), List.mem_of_getElem? (i := 963) (by decide +kernel)⟩
theorem lw_p68 : lw_okq (⟨"PairKeeper$Phasing", "layerOfTask", "(I)I"⟩, 9) := ⟨⟨by decide +kernel, by decide +kernel⟩, List.mem_of_getElem? (i := 239) (by decide +kernel), List.mem_of_getElem? (i := 966) (by decide +kernel), List.mem_of_getElem? (i := 967) (by decide +kernel)⟩
theorem lw_p69 : lw_okq (⟨"PairKeeper$Phasing", "follow", "(LPairKeeper$Search;I)V"⟩, 9) := ⟨⟨by decide +kernel, by decide +kernel⟩, List.mem_of_getElem? (i := 239) (by decide +kernel), List.mem_of_getElem? (i := 971) (by decide +kernel), List.mem_of_getElem? (i := 972) (by decide +kernel)⟩
theorem lw_p70 : lw_okq (⟨"PairKeeper", "makeMost", "()I"⟩, 12) := ⟨⟨by decide +kernel, by decide +kernel⟩, List.mem_of_getElem? (i := 25) (by decide +kernel), List.mem_of_getElem? (i := 991) (by decide +kernel), List.mem_of_getElem? (i := 992) (by decide +kernel)⟩
theorem lw_p71 : lw_okq (⟨"PairKeeper$Reach", "look", "(LPairKeeper$Search;)V"⟩, 5) := ⟨⟨by decide +kernel, by decide +kernel⟩, List.mem_of_getElem? (i := 213) (by decide +kernel), List.mem_of_getElem? (i := 995) (by decide +kernel), List.mem_of_getElem? (i := 996) (by decide +kernel)⟩
theorem lw_p72 : lw_okq (⟨"PairKeeper$Reach", "lookOn", "(LPairKeeper$Search;)V"⟩, 5) := ⟨⟨by decide +kernel, by decide +kernel⟩, List.mem_of_getElem? (i := 213) (by decide +kernel), List.mem_of_getElem? (i := 1000) (by decide +kernel), List.mem_of_getElem? (i := 1001) (by decide +kernel)⟩
theorem lw_p73 : lw_okq (⟨"PairKeeper$Reach", "lookBack", "(LPairKeeper$Search;)V"⟩, 5) := ⟨⟨by decide +kernel, by decide +kernel⟩, List.mem_of_getElem? (i := 213) (by decide +kernel), List.mem_of_getElem? (i := 1009) (by decide +kernel), List.mem_of_getElem? (i := 1010) (by decide +kernel)⟩
theorem lw_p74 : lw_okq (⟨"PairKeeper", "partOf", "(II)I"⟩, 12) := ⟨⟨by decide +kernel, by decide +kernel⟩, List.mem_of_getElem? (i := 25) (by decide +kernel), List.mem_of_getElem? (i := 1027) (by decide +kernel), List.mem_of_getElem? (i := 1028) (by decide +kernel)⟩
theorem lw_p75 : lw_okq (⟨"PairKeeper$Search", "leaveOut", "(II)V"⟩, 10) := ⟨⟨by decide +kernel, by decide +kernel⟩, List.mem_of_getElem? (i := 165) (by decide +kernel), List.mem_of_getElem? (i := 1033) (by decide +kernel), List.mem_of_getElem? (i := 1034) (by decide +kernel)⟩
theorem lw_p76 : lw_okq (⟨"PairKeeper$Reach", "close", "(LPairKeeper$Search;)V"⟩, 5) := ⟨⟨by decide +kernel, by decide +kernel⟩, List.mem_of_getElem? (i := 213) (by decide +kernel), List.mem_of_getElem? (i := 1046) (by decide +kernel), List.mem_of_getElem? (i := 1047) (by decide +kernel)⟩
theorem lw_p77 : lw_okq (⟨"PairKeeper", "kindOf", "(II)I"⟩, 12) := ⟨⟨by decide +kernel, by decide +kernel⟩, List.mem_of_getElem? (i := 25) (by decide +kernel), List.mem_of_getElem? (i := 1051) (by decide +kernel), List.mem_of_getElem? (i := 1052) (by decide +kernel)⟩
theorem lw_p78 : lw_okq (⟨"PairKeeper$Search", "isOpen", "(II)Z"⟩, 10) := ⟨⟨by decide +kernel, by decide +kernel⟩, List.mem_of_getElem? (i := 165) (by decide +kernel), List.mem_of_getElem? (i := 1056) (by decide +kernel), List.mem_of_getElem? (i := 1057) (by decide +kernel)⟩
theorem lw_p79 : lw_okq (⟨"PairKeeper$Reach", "kindOf", "(LPairKeeper$Search;II)I"⟩, 5) := ⟨⟨by decide +kernel, by decide +kernel⟩, List.mem_of_getElem? (i := 213) (by decide +kernel), List.mem_of_getElem? (i := 1060) (by decide +kernel), List.mem_of_getElem? (i := 1061) (by decide +kernel)⟩
def lw_privs_5 : List (MethodName × Nat) := [(⟨"PairKeeper$Phasing", "nextTasks", "(LPairKeeper$Search;I)I"⟩, 9), (⟨"PairKeeper$Phasing", "layerOfWorker", "(I)I"⟩, 9), (⟨"PairKeeper$Phasing", "seek", "(LPairKeeper$Search;I)Z"⟩, 9), (⟨"PairKeeper$Phasing", "nextTask", "(LPairKeeper$Search;I)I"⟩, 9), (⟨"PairKeeper$Phasing", "layerOfTask", "(I)I"⟩, 9), (⟨"PairKeeper$Phasing", "follow", "(LPairKeeper$Search;I)V"⟩, 9), (⟨"PairKeeper", "makeMost", "()I"⟩, 12), (⟨"PairKeeper$Reach", "look", "(LPairKeeper$Search;)V"⟩, 5), (⟨"PairKeeper$Reach", "lookOn", "(LPairKeeper$Search;)V"⟩, 5), (⟨"PairKeeper$Reach", "lookBack", "(LPairKeeper$Search;)V"⟩, 5), (⟨"PairKeeper", "partOf", "(II)I"⟩, 12), (⟨"PairKeeper$Search", "leaveOut", "(II)V"⟩, 10), (⟨"PairKeeper$Reach", "close", "(LPairKeeper$Search;)V"⟩, 5), (⟨"PairKeeper", "kindOf", "(II)I"⟩, 12), (⟨"PairKeeper$Search", "isOpen", "(II)Z"⟩, 10), (⟨"PairKeeper$Reach", "kindOf", "(LPairKeeper$Search;II)I"⟩, 5)]
theorem lw_r5 : ∀ q ∈ lw_privs_5, lw_okq q := List.forall_mem_cons.mpr ⟨lw_p64, List.forall_mem_cons.mpr ⟨lw_p65, List.forall_mem_cons.mpr ⟨lw_p66, List.forall_mem_cons.mpr ⟨lw_p67, List.forall_mem_cons.mpr ⟨lw_p68, List.forall_mem_cons.mpr ⟨lw_p69, List.forall_mem_cons.mpr ⟨lw_p70, List.forall_mem_cons.mpr ⟨lw_p71, List.forall_mem_cons.mpr ⟨lw_p72, List.forall_mem_cons.mpr ⟨lw_p73, List.forall_mem_cons.mpr ⟨lw_p74, List.forall_mem_cons.mpr ⟨lw_p75, List.forall_mem_cons.mpr ⟨lw_p76, List.forall_mem_cons.mpr ⟨lw_p77, List.forall_mem_cons.mpr ⟨lw_p78, List.forall_mem_cons.mpr ⟨lw_p79, fun _ h => absurd h List.not_mem_nil⟩⟩⟩⟩⟩⟩⟩⟩⟩⟩⟩⟩⟩⟩⟩⟩
theorem lw_p80 : lw_okq (⟨"PairKeeper$Reach", "comesTo", "(II)Z"⟩, 5) := ⟨⟨by decide +kernel, by decide +kernel⟩, List.mem_of_getElem? (i := 213) (by decide +kernel), List.mem_of_getElem? (i := 1064) (by decide +kernel), List.mem_of_getElem? (i := 1065) (by decide +kernel)⟩
theorem lw_p81 : lw_okq (⟨"PairKeeper", "runTally", "()V"⟩, 12) := ⟨⟨by decide +kernel, by decide +kernel⟩, List.mem_of_getElem? (i := 25) (by decide +kernel), List.mem_of_getElem? (i := 1092) (by decide +kernel), List.mem_of_getElem? (i := 1093) (by decide +kernel)⟩
theorem lw_p82 : lw_okq (⟨"PairKeeper$Tally", "run", "(LPairKeeper$Book;LPairKeeper$Search;I)V"⟩, 8) := ⟨⟨by decide +kernel, by decide +kernel⟩, List.mem_of_getElem? (i := 277) (by decide +kernel), List.mem_of_getElem? (i := 1096) (by decide +kernel), List.mem_of_getElem? (i := 1097) (by decide +kernel)⟩
theorem lw_p83 : lw_okq (⟨"PairKeeper$Tally", "extend", "(LPairKeeper$Book;IIJII)V"⟩, 8) := ⟨⟨by decide +kernel, by decide +kernel⟩, List.mem_of_getElem? (i := 277) (by decide +kernel), List.mem_of_getElem? (i := 1106) (by decide +kernel), List.mem_of_getElem? (i := 1107) (by decide +kernel)⟩
theorem lw_p84 : lw_okq (⟨"PairKeeper$Tally", "put", "(IIIJ)V"⟩, 8) := ⟨⟨by decide +kernel, by decide +kernel⟩, List.mem_of_getElem? (i := 277) (by decide +kernel), List.mem_of_getElem? (i := 1111) (by decide +kernel), List.mem_of_getElem? (i := 1112) (by decide +kernel)⟩
theorem lw_p85 : lw_okq (⟨"PairKeeper$Tally", "finish", "(II)V"⟩, 8) := ⟨⟨by decide +kernel, by decide +kernel⟩, List.mem_of_getElem? (i := 277) (by decide +kernel), List.mem_of_getElem? (i := 1119) (by decide +kernel), List.mem_of_getElem? (i := 1120) (by decide +kernel)⟩
theorem lw_p86 : lw_okq (⟨"PairKeeper$Tally", "decode", "(J)V"⟩, 8) := ⟨⟨by decide +kernel, by decide +kernel⟩, List.mem_of_getElem? (i := 277) (by decide +kernel), List.mem_of_getElem? (i := 1123) (by decide +kernel), List.mem_of_getElem? (i := 1124) (by decide +kernel)⟩
theorem lw_p87 : lw_okq (⟨"PairKeeper", "wouldGrow", "(II)Z"⟩, 12) := ⟨⟨by decide +kernel, by decide +kernel⟩, List.mem_of_getElem? (i := 25) (by decide +kernel), List.mem_of_getElem? (i := 1137) (by decide +kernel), List.mem_of_getElem? (i := 1138) (by decide +kernel)⟩
theorem lw_p88 : lw_okq (⟨"PairKeeper", "firstAlways", "()I"⟩, 12) := ⟨⟨by decide +kernel, by decide +kernel⟩, List.mem_of_getElem? (i := 25) (by decide +kernel), List.mem_of_getElem? (i := 1148) (by decide +kernel), List.mem_of_getElem? (i := 1149) (by decide +kernel)⟩
theorem lw_p89 : lw_okq (⟨"PairKeeper", "firstOfTwo", "()I"⟩, 12) := ⟨⟨by decide +kernel, by decide +kernel⟩, List.mem_of_getElem? (i := 25) (by decide +kernel), List.mem_of_getElem? (i := 1152) (by decide +kernel), List.mem_of_getElem? (i := 1153) (by decide +kernel)⟩
theorem lw_p90 : lw_okq (⟨"PairKeeper$Search", "shut", "(II)V"⟩, 10) := ⟨⟨by decide +kernel, by decide +kernel⟩, List.mem_of_getElem? (i := 165) (by decide +kernel), List.mem_of_getElem? (i := 1156) (by decide +kernel), List.mem_of_getElem? (i := 1157) (by decide +kernel)⟩
theorem lw_p91 : lw_okq (⟨"PairKeeper$Search", "open", "(II)V"⟩, 10) := ⟨⟨by decide +kernel, by decide +kernel⟩, List.mem_of_getElem? (i := 165) (by decide +kernel), List.mem_of_getElem? (i := 1160) (by decide +kernel), List.mem_of_getElem? (i := 1161) (by decide +kernel)⟩
theorem lw_p92 : lw_okq (⟨"PairKeeper$Book", "heaviest", "(I)I"⟩, 10) := ⟨⟨by decide +kernel, by decide +kernel⟩, List.mem_of_getElem? (i := 33) (by decide +kernel), List.mem_of_getElem? (i := 1172) (by decide +kernel), List.mem_of_getElem? (i := 1173) (by decide +kernel)⟩
theorem lw_p93 : lw_okq (⟨"PairKeeper$Book", "weightOf", "(I)I"⟩, 10) := ⟨⟨by decide +kernel, by decide +kernel⟩, List.mem_of_getElem? (i := 33) (by decide +kernel), List.mem_of_getElem? (i := 1176) (by decide +kernel), List.mem_of_getElem? (i := 1177) (by decide +kernel)⟩
theorem lw_p94 : lw_okq (⟨"PairKeeper$Calendar", "fill", "(LPairKeeper$Book;)V"⟩, 6) := ⟨⟨by decide +kernel, by decide +kernel⟩, List.mem_of_getElem? (i := 312) (by decide +kernel), List.mem_of_getElem? (i := 1190) (by decide +kernel), List.mem_of_getElem? (i := 1191) (by decide +kernel)⟩
theorem lw_p95 : lw_okq (⟨"PairKeeper$Calendar", "give", "(II)V"⟩, 6) := ⟨⟨by decide +kernel, by decide +kernel⟩, List.mem_of_getElem? (i := 312) (by decide +kernel), List.mem_of_getElem? (i := 1196) (by decide +kernel), List.mem_of_getElem? (i := 1197) (by decide +kernel)⟩
def lw_privs_6 : List (MethodName × Nat) := [(⟨"PairKeeper$Reach", "comesTo", "(II)Z"⟩, 5), (⟨"PairKeeper", "runTally", "()V"⟩, 12), (⟨"PairKeeper$Tally", "run", "(LPairKeeper$Book;LPairKeeper$Search;I)V"⟩, 8), (⟨"PairKeeper$Tally", "extend", "(LPairKeeper$Book;IIJII)V"⟩, 8), (⟨"PairKeeper$Tally", "put", "(IIIJ)V"⟩, 8), (⟨"PairKeeper$Tally", "finish", "(II)V"⟩, 8), (⟨"PairKeeper$Tally", "decode", "(J)V"⟩, 8), (⟨"PairKeeper", "wouldGrow", "(II)Z"⟩, 12), (⟨"PairKeeper", "firstAlways", "()I"⟩, 12), (⟨"PairKeeper", "firstOfTwo", "()I"⟩, 12), (⟨"PairKeeper$Search", "shut", "(II)V"⟩, 10), (⟨"PairKeeper$Search", "open", "(II)V"⟩, 10), (⟨"PairKeeper$Book", "heaviest", "(I)I"⟩, 10), (⟨"PairKeeper$Book", "weightOf", "(I)I"⟩, 10), (⟨"PairKeeper$Calendar", "fill", "(LPairKeeper$Book;)V"⟩, 6), (⟨"PairKeeper$Calendar", "give", "(II)V"⟩, 6)]
theorem lw_r6 : ∀ q ∈ lw_privs_6, lw_okq q := List.forall_mem_cons.mpr ⟨lw_p80, List.forall_mem_cons.mpr ⟨lw_p81, List.forall_mem_cons.mpr ⟨lw_p82, List.forall_mem_cons.mpr ⟨lw_p83, List.forall_mem_cons.mpr ⟨lw_p84, List.forall_mem_cons.mpr ⟨lw_p85, List.forall_mem_cons.mpr ⟨lw_p86, List.forall_mem_cons.mpr ⟨lw_p87, List.forall_mem_cons.mpr ⟨lw_p88, List.forall_mem_cons.mpr ⟨lw_p89, List.forall_mem_cons.mpr ⟨lw_p90, List.forall_mem_cons.mpr ⟨lw_p91, List.forall_mem_cons.mpr ⟨lw_p92, List.forall_mem_cons.mpr ⟨lw_p93, List.forall_mem_cons.mpr ⟨lw_p94, List.forall_mem_cons.mpr ⟨lw_p95, fun _ h => absurd h List.not_mem_nil⟩⟩⟩⟩⟩⟩⟩⟩⟩⟩⟩⟩⟩⟩⟩⟩
theorem lw_p96 : lw_okq (⟨"PairKeeper$Calendar", "change", "(III)V"⟩, 6) := ⟨⟨by decide +kernel, by decide +kernel⟩, List.mem_of_getElem? (i := 312) (by decide +kernel), List.mem_of_getElem? (i := 1207) (by decide +kernel), List.mem_of_getElem? (i := 1208) (by decide +kernel)⟩
theorem lw_p97 : lw_okq (⟨"PairKeeper$Calendar", "followChain", "(III)I"⟩, 6) := ⟨⟨by decide +kernel, by decide +kernel⟩, List.mem_of_getElem? (i := 312) (by decide +kernel), List.mem_of_getElem? (i := 1211) (by decide +kernel), List.mem_of_getElem? (i := 1212) (by decide +kernel)⟩
theorem lw_p98 : lw_okq (⟨"PairKeeper$Calendar", "clear", "(III)V"⟩, 6) := ⟨⟨by decide +kernel, by decide +kernel⟩, List.mem_of_getElem? (i := 312) (by decide +kernel), List.mem_of_getElem? (i := 1215) (by decide +kernel), List.mem_of_getElem? (i := 1216) (by decide +kernel)⟩
theorem lw_p99 : lw_okq (⟨"PairKeeper$Calendar", "put", "(III)V"⟩, 6) := ⟨⟨by decide +kernel, by decide +kernel⟩, List.mem_of_getElem? (i := 312) (by decide +kernel), List.mem_of_getElem? (i := 1222) (by decide +kernel), List.mem_of_getElem? (i := 1223) (by decide +kernel)⟩
theorem lw_p100 : lw_okq (⟨"PairKeeper$Calendar", "roundOf", "(II)I"⟩, 6) := ⟨⟨by decide +kernel, by decide +kernel⟩, List.mem_of_getElem? (i := 312) (by decide +kernel), List.mem_of_getElem? (i := 1229) (by decide +kernel), List.mem_of_getElem? (i := 1230) (by decide +kernel)⟩
theorem lw_p101 : lw_okq (⟨"PairKeeper$Book", "removeFit", "(II)V"⟩, 10) := ⟨⟨by decide +kernel, by decide +kernel⟩, List.mem_of_getElem? (i := 33) (by decide +kernel), List.mem_of_getElem? (i := 1248) (by decide +kernel), List.mem_of_getElem? (i := 1249) (by decide +kernel)⟩
theorem lw_p102 : lw_okq (⟨"PairKeeper$Reader", "hasRoom", "()Z"⟩, 8) := ⟨⟨by decide +kernel, by decide +kernel⟩, List.mem_of_getElem? (i := 133) (by decide +kernel), List.mem_of_getElem? (i := 1318) (by decide +kernel), List.mem_of_getElem? (i := 1319) (by decide +kernel)⟩
theorem lw_p103 : lw_okq (⟨"PairKeeper$Reader", "put", "(I)V"⟩, 8) := ⟨⟨by decide +kernel, by decide +kernel⟩, List.mem_of_getElem? (i := 133) (by decide +kernel), List.mem_of_getElem? (i := 1322) (by decide +kernel), List.mem_of_getElem? (i := 1323) (by decide +kernel)⟩
theorem lw_p104 : lw_okq (⟨"PairKeeper$Book", "workersFor", "(I)I"⟩, 10) := ⟨⟨by decide +kernel, by decide +kernel⟩, List.mem_of_getElem? (i := 33) (by decide +kernel), List.mem_of_getElem? (i := 1372) (by decide +kernel), List.mem_of_getElem? (i := 1373) (by decide +kernel)⟩
theorem lw_p105 : lw_okq (⟨"PairKeeper$Search", "findFirst", "()I"⟩, 10) := ⟨⟨by decide +kernel, by decide +kernel⟩, List.mem_of_getElem? (i := 165) (by decide +kernel), List.mem_of_getElem? (i := 1381) (by decide +kernel), List.mem_of_getElem? (i := 1382) (by decide +kernel)⟩
def lw_privs_7 : List (MethodName × Nat) := [(⟨"PairKeeper$Calendar", "change", "(III)V"⟩, 6), (⟨"PairKeeper$Calendar", "followChain", "(III)I"⟩, 6), (⟨"PairKeeper$Calendar", "clear", "(III)V"⟩, 6), (⟨"PairKeeper$Calendar", "put", "(III)V"⟩, 6), (⟨"PairKeeper$Calendar", "roundOf", "(II)I"⟩, 6), (⟨"PairKeeper$Book", "removeFit", "(II)V"⟩, 10), (⟨"PairKeeper$Reader", "hasRoom", "()Z"⟩, 8), (⟨"PairKeeper$Reader", "put", "(I)V"⟩, 8), (⟨"PairKeeper$Book", "workersFor", "(I)I"⟩, 10), (⟨"PairKeeper$Search", "findFirst", "()I"⟩, 10)]
theorem lw_r7 : ∀ q ∈ lw_privs_7, lw_okq q := List.forall_mem_cons.mpr ⟨lw_p96, List.forall_mem_cons.mpr ⟨lw_p97, List.forall_mem_cons.mpr ⟨lw_p98, List.forall_mem_cons.mpr ⟨lw_p99, List.forall_mem_cons.mpr ⟨lw_p100, List.forall_mem_cons.mpr ⟨lw_p101, List.forall_mem_cons.mpr ⟨lw_p102, List.forall_mem_cons.mpr ⟨lw_p103, List.forall_mem_cons.mpr ⟨lw_p104, List.forall_mem_cons.mpr ⟨lw_p105, fun _ h => absurd h List.not_mem_nil⟩⟩⟩⟩⟩⟩⟩⟩⟩⟩
def lw_privs : List (MethodName × Nat) := lw_privs_1 ++ (lw_privs_2 ++ (lw_privs_3 ++ (lw_privs_4 ++ (lw_privs_5 ++ (lw_privs_6 ++ (lw_privs_7))))))
def lw_tbl : List Cond := k2_sels lw_privs ++ tables_1
theorem lw_privs_ok : ∀ q ∈ lw_privs, lw_okq q := by
  show ∀ q ∈ lw_privs_1 ++ (lw_privs_2 ++ (lw_privs_3 ++ (lw_privs_4 ++ (lw_privs_5 ++ (lw_privs_6 ++ (lw_privs_7)))))), lw_okq q
  exact List.forall_mem_append.mpr ⟨lw_r1, List.forall_mem_append.mpr ⟨lw_r2, List.forall_mem_append.mpr ⟨lw_r3, List.forall_mem_append.mpr ⟨lw_r4, List.forall_mem_append.mpr ⟨lw_r5, List.forall_mem_append.mpr ⟨lw_r6, lw_r7⟩⟩⟩⟩⟩⟩
-- ===== end of PART A; then your names; then what follows =====
def RX0 : String := "PairKeeper$Book"
def TX0 : u_T := fun k => match k with
  | 0 => ("PairKeeper$Book", "workers", "I", false)
  | 1 => ("PairKeeper$Book", "tasks", "I", false)
  | 2 => ("PairKeeper$Book", "workersThere", "I", false)
  | 3 => ("PairKeeper$Book", "tasksThere", "I", false)
  | 4 => ("PairKeeper$Book", "keeping", "I", false)
  | 5 => ("PairKeeper$Book", "weights", "[I", true)
  | 6 => ("PairKeeper$Book", "tasksFitting", "[I", true)
  | 7 => ("PairKeeper$Book", "workersFitting", "[I", true)
  | 8 => ("PairKeeper$Book", "costs", "[I", true)
  | _ => ("PairKeeper$Book", "pairs", "LPairKeeper$Pairs;", true)
def tyX0 : Nat → FieldType := fun k => match k with
  | 0 => .int
  | 1 => .int
  | 2 => .int
  | 3 => .int
  | 4 => .int
  | 5 => .array .int
  | 6 => .array .int
  | 7 => .array .int
  | 8 => .array .int
  | _ => .object "PairKeeper$Pairs"
abbrev wsX00 : List Cond := u_ws RX0 TX0 10
theorem nmX0 : ∀ a, a < 10 → ∀ b, b < 10 → a ≠ b → (TX0 a).2.1 ≠ (TX0 b).2.1 := by decide +kernel
theorem tyX0_ok : ∀ k, k < 10 → parseFieldDescriptor (TX0 k).2.2.1 = some (tyX0 k) := by decide +kernel
abbrev cX0_init : ByteArray := prog_2_method_1_code
def yX0_init : MethodName := ⟨RX0, "<init>", "()V"⟩
abbrev cX0_begin : ByteArray := prog_2_method_2_code
def yX0_begin : MethodName := ⟨RX0, "begin", "(II)V"⟩
abbrev cX0_copy : ByteArray := prog_2_method_3_code
def yX0_copy : MethodName := ⟨RX0, "copy", "(LPairKeeper$Book;)V"⟩
abbrev cX0_knows : ByteArray := prog_2_method_4_code
def yX0_knows : MethodName := ⟨RX0, "knows", "(II)Z"⟩
abbrev cX0_knowsBoth : ByteArray := prog_2_method_5_code
def yX0_knowsBoth : MethodName := ⟨RX0, "knowsBoth", "(II)Z"⟩
abbrev cX0_isThere : ByteArray := prog_2_method_6_code
def yX0_isThere : MethodName := ⟨RX0, "isThere", "(II)Z"⟩
abbrev cX0_partnerOf : ByteArray := prog_2_method_7_code
def yX0_partnerOf : MethodName := ⟨RX0, "partnerOf", "(II)I"⟩
abbrev cX0_isFree : ByteArray := prog_2_method_8_code
def yX0_isFree : MethodName := ⟨RX0, "isFree", "(II)Z"⟩
abbrev cX0_costOf : ByteArray := prog_2_method_9_code
def yX0_costOf : MethodName := ⟨RX0, "costOf", "(II)I"⟩
abbrev cX0_isFit : ByteArray := prog_2_method_10_code
def yX0_isFit : MethodName := ⟨RX0, "isFit", "(II)Z"⟩
abbrev cX0_tasksFor : ByteArray := prog_2_method_11_code
def yX0_tasksFor : MethodName := ⟨RX0, "tasksFor", "(I)I"⟩
abbrev cX0_workersFor : ByteArray := prog_2_method_12_code
def yX0_workersFor : MethodName := ⟨RX0, "workersFor", "(I)I"⟩
abbrev cX0_setFit : ByteArray := prog_2_method_13_code
def yX0_setFit : MethodName := ⟨RX0, "setFit", "(III)V"⟩
abbrev cX0_removeFit : ByteArray := prog_2_method_14_code
def yX0_removeFit : MethodName := ⟨RX0, "removeFit", "(II)V"⟩
abbrev cX0_setThere : ByteArray := prog_2_method_15_code
def yX0_setThere : MethodName := ⟨RX0, "setThere", "(IIZ)V"⟩
abbrev cX0_weightOf : ByteArray := prog_2_method_16_code
def yX0_weightOf : MethodName := ⟨RX0, "weightOf", "(I)I"⟩
abbrev cX0_setWeight : ByteArray := prog_2_method_17_code
def yX0_setWeight : MethodName := ⟨RX0, "setWeight", "(II)V"⟩
abbrev cX0_heaviest : ByteArray := prog_2_method_18_code
def yX0_heaviest : MethodName := ⟨RX0, "heaviest", "(I)I"⟩
abbrev cX0_fitCount : ByteArray := prog_2_method_19_code
def yX0_fitCount : MethodName := ⟨RX0, "fitCount", "()I"⟩
abbrev cX0_pairCost : ByteArray := prog_2_method_20_code
def yX0_pairCost : MethodName := ⟨RX0, "pairCost", "()I"⟩
abbrev cX0_tradeGain : ByteArray := prog_2_method_21_code
def yX0_tradeGain : MethodName := ⟨RX0, "tradeGain", "(II)I"⟩
def RX1 : String := "PairKeeper$Calendar"
def TX1 : u_T := fun k => match k with
  | 0 => ("PairKeeper$Calendar", "taskIn", "[I", true)
  | 1 => ("PairKeeper$Calendar", "workerIn", "[I", true)
  | 2 => ("PairKeeper$Calendar", "roundsOfFits", "[I", true)
  | 3 => ("PairKeeper$Calendar", "chainWorkers", "[I", true)
  | 4 => ("PairKeeper$Calendar", "chainTasks", "[I", true)
  | _ => ("PairKeeper$Calendar", "rounds", "I", false)
def tyX1 : Nat → FieldType := fun k => match k with
  | 0 => .array .int
  | 1 => .array .int
  | 2 => .array .int
  | 3 => .array .int
  | 4 => .array .int
  | _ => .int
abbrev wsX10 : List Cond := u_ws RX1 TX1 6
theorem nmX1 : ∀ a, a < 6 → ∀ b, b < 6 → a ≠ b → (TX1 a).2.1 ≠ (TX1 b).2.1 := by decide +kernel
theorem tyX1_ok : ∀ k, k < 6 → parseFieldDescriptor (TX1 k).2.2.1 = some (tyX1 k) := by decide +kernel
abbrev cX1_init : ByteArray := prog_3_method_1_code
def yX1_init : MethodName := ⟨RX1, "<init>", "()V"⟩
abbrev cX1_fill : ByteArray := prog_3_method_2_code
def yX1_fill : MethodName := ⟨RX1, "fill", "(LPairKeeper$Book;)V"⟩
abbrev cX1_roundOf : ByteArray := prog_3_method_3_code
def yX1_roundOf : MethodName := ⟨RX1, "roundOf", "(II)I"⟩
abbrev cX1_cellOf : ByteArray := prog_3_method_4_code
def yX1_cellOf : MethodName := ⟨RX1, "cellOf", "([III)I"⟩
abbrev cX1_setCell : ByteArray := prog_3_method_5_code
def yX1_setCell : MethodName := ⟨RX1, "setCell", "([IIII)V"⟩
abbrev cX1_leastLeft : ByteArray := prog_3_method_6_code
def yX1_leastLeft : MethodName := ⟨RX1, "leastLeft", "([II)I"⟩
abbrev cX1_give : ByteArray := prog_3_method_7_code
def yX1_give : MethodName := ⟨RX1, "give", "(II)V"⟩
abbrev cX1_put : ByteArray := prog_3_method_8_code
def yX1_put : MethodName := ⟨RX1, "put", "(III)V"⟩
abbrev cX1_clear : ByteArray := prog_3_method_9_code
def yX1_clear : MethodName := ⟨RX1, "clear", "(III)V"⟩
abbrev cX1_change : ByteArray := prog_3_method_10_code
def yX1_change : MethodName := ⟨RX1, "change", "(III)V"⟩
abbrev cX1_followChain : ByteArray := prog_3_method_11_code
def yX1_followChain : MethodName := ⟨RX1, "followChain", "(III)I"⟩
def RX2 : String := "PairKeeper$History"
def TX2 : u_T := fun k => match k with
  | 0 => ("PairKeeper$History", "books", "[LPairKeeper$Book;", true)
  | 1 => ("PairKeeper$History", "next", "I", false)
  | _ => ("PairKeeper$History", "count", "I", false)
def tyX2 : Nat → FieldType := fun k => match k with
  | 0 => .array (.object "PairKeeper$Book")
  | 1 => .int
  | _ => .int
abbrev wsX20 : List Cond := u_ws RX2 TX2 3
theorem nmX2 : ∀ a, a < 3 → ∀ b, b < 3 → a ≠ b → (TX2 a).2.1 ≠ (TX2 b).2.1 := by decide +kernel
theorem tyX2_ok : ∀ k, k < 3 → parseFieldDescriptor (TX2 k).2.2.1 = some (tyX2 k) := by decide +kernel
abbrev cX2_init : ByteArray := prog_4_method_1_code
def yX2_init : MethodName := ⟨RX2, "<init>", "()V"⟩
abbrev cX2_bookAt : ByteArray := prog_4_method_2_code
def yX2_bookAt : MethodName := ⟨RX2, "bookAt", "(I)LPairKeeper$Book;"⟩
abbrev cX2_save : ByteArray := prog_4_method_3_code
def yX2_save : MethodName := ⟨RX2, "save", "(LPairKeeper$Book;)V"⟩
abbrev cX2_takeBack : ByteArray := prog_4_method_4_code
def yX2_takeBack : MethodName := ⟨RX2, "takeBack", "(LPairKeeper$Book;)Z"⟩
def RX3 : String := "PairKeeper$Pairs"
def TX3 : u_T := fun k => match k with
  | 0 => ("PairKeeper$Pairs", "tasks", "[I", true)
  | _ => ("PairKeeper$Pairs", "workers", "[I", true)
def tyX3 : Nat → FieldType := fun k => match k with
  | 0 => .array .int
  | _ => .array .int
abbrev wsX30 : List Cond := u_ws RX3 TX3 2
theorem nmX3 : ∀ a, a < 2 → ∀ b, b < 2 → a ≠ b → (TX3 a).2.1 ≠ (TX3 b).2.1 := by decide +kernel
theorem tyX3_ok : ∀ k, k < 2 → parseFieldDescriptor (TX3 k).2.2.1 = some (tyX3 k) := by decide +kernel
abbrev cX3_init : ByteArray := prog_5_method_1_code
def yX3_init : MethodName := ⟨RX3, "<init>", "()V"⟩
abbrev cX3_clear : ByteArray := prog_5_method_2_code
def yX3_clear : MethodName := ⟨RX3, "clear", "()V"⟩
abbrev cX3_copy : ByteArray := prog_5_method_3_code
def yX3_copy : MethodName := ⟨RX3, "copy", "(LPairKeeper$Pairs;)V"⟩
abbrev cX3_taskOf : ByteArray := prog_5_method_4_code
def yX3_taskOf : MethodName := ⟨RX3, "taskOf", "(I)I"⟩
abbrev cX3_workerOf : ByteArray := prog_5_method_5_code
def yX3_workerOf : MethodName := ⟨RX3, "workerOf", "(I)I"⟩
abbrev cX3_join : ByteArray := prog_5_method_6_code
def yX3_join : MethodName := ⟨RX3, "join", "(II)V"⟩
abbrev cX3_loosenWorker : ByteArray := prog_5_method_7_code
def yX3_loosenWorker : MethodName := ⟨RX3, "loosenWorker", "(I)V"⟩
abbrev cX3_loosenTask : ByteArray := prog_5_method_8_code
def yX3_loosenTask : MethodName := ⟨RX3, "loosenTask", "(I)V"⟩
abbrev cX3_swap : ByteArray := prog_5_method_9_code
def yX3_swap : MethodName := ⟨RX3, "swap", "(II)V"⟩
abbrev cX3_workersIn : ByteArray := prog_5_method_10_code
def yX3_workersIn : MethodName := ⟨RX3, "workersIn", "()I"⟩
abbrev cX3_tasksIn : ByteArray := prog_5_method_11_code
def yX3_tasksIn : MethodName := ⟨RX3, "tasksIn", "()I"⟩
abbrev cX3_size : ByteArray := prog_5_method_12_code
def yX3_size : MethodName := ⟨RX3, "size", "()I"⟩
def RX4 : String := "PairKeeper$Phasing"
def TX4 : u_T := fun k => match k with
  | 0 => ("PairKeeper$Phasing", "workerLayers", "[I", true)
  | 1 => ("PairKeeper$Phasing", "taskLayers", "[I", true)
  | 2 => ("PairKeeper$Phasing", "path", "[I", true)
  | 3 => ("PairKeeper$Phasing", "pathTasks", "[I", true)
  | 4 => ("PairKeeper$Phasing", "seenTasks", "I", false)
  | 5 => ("PairKeeper$Phasing", "phaseCount", "I", false)
  | 6 => ("PairKeeper$Phasing", "wayCount", "I", false)
  | 7 => ("PairKeeper$Phasing", "firstWays", "I", false)
  | _ => ("PairKeeper$Phasing", "lastLength", "I", false)
def tyX4 : Nat → FieldType := fun k => match k with
  | 0 => .array .int
  | 1 => .array .int
  | 2 => .array .int
  | 3 => .array .int
  | 4 => .int
  | 5 => .int
  | 6 => .int
  | 7 => .int
  | _ => .int
abbrev wsX40 : List Cond := u_ws RX4 TX4 9
theorem nmX4 : ∀ a, a < 9 → ∀ b, b < 9 → a ≠ b → (TX4 a).2.1 ≠ (TX4 b).2.1 := by decide +kernel
theorem tyX4_ok : ∀ k, k < 9 → parseFieldDescriptor (TX4 k).2.2.1 = some (tyX4 k) := by decide +kernel
abbrev cX4_init : ByteArray := prog_6_method_1_code
def yX4_init : MethodName := ⟨RX4, "<init>", "()V"⟩
abbrev cX4_run : ByteArray := prog_6_method_2_code
def yX4_run : MethodName := ⟨RX4, "run", "(LPairKeeper$Search;)V"⟩
abbrev cX4_layerOfWorker : ByteArray := prog_6_method_3_code
def yX4_layerOfWorker : MethodName := ⟨RX4, "layerOfWorker", "(I)I"⟩
abbrev cX4_layerOfTask : ByteArray := prog_6_method_4_code
def yX4_layerOfTask : MethodName := ⟨RX4, "layerOfTask", "(I)I"⟩
abbrev cX4_makeLayers : ByteArray := prog_6_method_5_code
def yX4_makeLayers : MethodName := ⟨RX4, "makeLayers", "(LPairKeeper$Search;)Z"⟩
abbrev cX4_nextTasks : ByteArray := prog_6_method_6_code
def yX4_nextTasks : MethodName := ⟨RX4, "nextTasks", "(LPairKeeper$Search;I)I"⟩
abbrev cX4_seek : ByteArray := prog_6_method_7_code
def yX4_seek : MethodName := ⟨RX4, "seek", "(LPairKeeper$Search;I)Z"⟩
abbrev cX4_nextTask : ByteArray := prog_6_method_8_code
def yX4_nextTask : MethodName := ⟨RX4, "nextTask", "(LPairKeeper$Search;I)I"⟩
abbrev cX4_follow : ByteArray := prog_6_method_9_code
def yX4_follow : MethodName := ⟨RX4, "follow", "(LPairKeeper$Search;I)V"⟩
def RX5 : String := "PairKeeper$Reach"
def TX5 : u_T := fun k => match k with
  | 0 => ("PairKeeper$Reach", "workers", "I", false)
  | 1 => ("PairKeeper$Reach", "tasks", "I", false)
  | 2 => ("PairKeeper$Reach", "workersBack", "I", false)
  | 3 => ("PairKeeper$Reach", "tasksBack", "I", false)
  | _ => ("PairKeeper$Reach", "onward", "[I", true)
def tyX5 : Nat → FieldType := fun k => match k with
  | 0 => .int
  | 1 => .int
  | 2 => .int
  | 3 => .int
  | _ => .array .int
abbrev wsX50 : List Cond := u_ws RX5 TX5 5
theorem nmX5 : ∀ a, a < 5 → ∀ b, b < 5 → a ≠ b → (TX5 a).2.1 ≠ (TX5 b).2.1 := by decide +kernel
theorem tyX5_ok : ∀ k, k < 5 → parseFieldDescriptor (TX5 k).2.2.1 = some (tyX5 k) := by decide +kernel
abbrev cX5_init : ByteArray := prog_7_method_1_code
def yX5_init : MethodName := ⟨RX5, "<init>", "()V"⟩
abbrev cX5_look : ByteArray := prog_7_method_2_code
def yX5_look : MethodName := ⟨RX5, "look", "(LPairKeeper$Search;)V"⟩
abbrev cX5_lookOn : ByteArray := prog_7_method_3_code
def yX5_lookOn : MethodName := ⟨RX5, "lookOn", "(LPairKeeper$Search;)V"⟩
abbrev cX5_lookBack : ByteArray := prog_7_method_4_code
def yX5_lookBack : MethodName := ⟨RX5, "lookBack", "(LPairKeeper$Search;)V"⟩
abbrev cX5_close : ByteArray := prog_7_method_5_code
def yX5_close : MethodName := ⟨RX5, "close", "(LPairKeeper$Search;)V"⟩
abbrev cX5_comesTo : ByteArray := prog_7_method_6_code
def yX5_comesTo : MethodName := ⟨RX5, "comesTo", "(II)Z"⟩
abbrev cX5_kindOf : ByteArray := prog_7_method_7_code
def yX5_kindOf : MethodName := ⟨RX5, "kindOf", "(LPairKeeper$Search;II)I"⟩
def RX6 : String := "PairKeeper$Reader"
def TX6 : u_T := fun k => match k with
  | 0 => ("PairKeeper$Reader", "bytes", "[I", true)
  | 1 => ("PairKeeper$Reader", "count", "I", false)
  | 2 => ("PairKeeper$Reader", "faultAt", "I", false)
  | 3 => ("PairKeeper$Reader", "faultKind", "I", false)
  | 4 => ("PairKeeper$Reader", "end", "I", false)
  | 5 => ("PairKeeper$Reader", "at", "I", false)
  | 6 => ("PairKeeper$Reader", "start", "I", false)
  | _ => ("PairKeeper$Reader", "keepRead", "Z", false)
def tyX6 : Nat → FieldType := fun k => match k with
  | 0 => .array .int
  | 1 => .int
  | 2 => .int
  | 3 => .int
  | 4 => .int
  | 5 => .int
  | 6 => .int
  | _ => .boolean
abbrev wsX60 : List Cond := u_ws RX6 TX6 8
theorem nmX6 : ∀ a, a < 8 → ∀ b, b < 8 → a ≠ b → (TX6 a).2.1 ≠ (TX6 b).2.1 := by decide +kernel
theorem tyX6_ok : ∀ k, k < 8 → parseFieldDescriptor (TX6 k).2.2.1 = some (tyX6 k) := by decide +kernel
abbrev cX6_init : ByteArray := prog_8_method_1_code
def yX6_init : MethodName := ⟨RX6, "<init>", "()V"⟩
abbrev cX6_hasRoom : ByteArray := prog_8_method_2_code
def yX6_hasRoom : MethodName := ⟨RX6, "hasRoom", "()Z"⟩
abbrev cX6_put : ByteArray := prog_8_method_3_code
def yX6_put : MethodName := ⟨RX6, "put", "(I)V"⟩
abbrev cX6_read : ByteArray := prog_8_method_4_code
def yX6_read : MethodName := ⟨RX6, "read", "(ILPairKeeper$Book;)I"⟩
abbrev cX6_readHead : ByteArray := prog_8_method_5_code
def yX6_readHead : MethodName := ⟨RX6, "readHead", "(LPairKeeper$Book;)Z"⟩
abbrev cX6_readLine : ByteArray := prog_8_method_6_code
def yX6_readLine : MethodName := ⟨RX6, "readLine", "(LPairKeeper$Book;)Z"⟩
abbrev cX6_readFit : ByteArray := prog_8_method_7_code
def yX6_readFit : MethodName := ⟨RX6, "readFit", "(LPairKeeper$Book;)Z"⟩
abbrev cX6_readAway : ByteArray := prog_8_method_8_code
def yX6_readAway : MethodName := ⟨RX6, "readAway", "(LPairKeeper$Book;)Z"⟩
abbrev cX6_readPair : ByteArray := prog_8_method_9_code
def yX6_readPair : MethodName := ⟨RX6, "readPair", "(LPairKeeper$Book;)Z"⟩
abbrev cX6_readWeight : ByteArray := prog_8_method_10_code
def yX6_readWeight : MethodName := ⟨RX6, "readWeight", "(LPairKeeper$Book;)Z"⟩
abbrev cX6_readKeep : ByteArray := prog_8_method_11_code
def yX6_readKeep : MethodName := ⟨RX6, "readKeep", "(LPairKeeper$Book;)Z"⟩
abbrev cX6_isFault : ByteArray := prog_8_method_12_code
def yX6_isFault : MethodName := ⟨RX6, "isFault", "(II)Z"⟩
abbrev cX6_byteAt : ByteArray := prog_8_method_13_code
def yX6_byteAt : MethodName := ⟨RX6, "byteAt", "(I)I"⟩
abbrev cX6_skipBlanks : ByteArray := prog_8_method_14_code
def yX6_skipBlanks : MethodName := ⟨RX6, "skipBlanks", "()V"⟩
abbrev cX6_moreStands : ByteArray := prog_8_method_15_code
def yX6_moreStands : MethodName := ⟨RX6, "moreStands", "()Z"⟩
abbrev cX6_readEnd : ByteArray := prog_8_method_16_code
def yX6_readEnd : MethodName := ⟨RX6, "readEnd", "()Z"⟩
abbrev cX6_takeWord : ByteArray := prog_8_method_17_code
def yX6_takeWord : MethodName := ⟨RX6, "takeWord", "()V"⟩
abbrev cX6_wordIs : ByteArray := prog_8_method_18_code
def yX6_wordIs : MethodName := ⟨RX6, "wordIs", "(Ljava/lang/String;)Z"⟩
abbrev cX6_readWord : ByteArray := prog_8_method_19_code
def yX6_readWord : MethodName := ⟨RX6, "readWord", "(Ljava/lang/String;)Z"⟩
abbrev cX6_readNumber : ByteArray := prog_8_method_20_code
def yX6_readNumber : MethodName := ⟨RX6, "readNumber", "(II)Z"⟩
abbrev cX6_value : ByteArray := prog_8_method_21_code
def yX6_value : MethodName := ⟨RX6, "value", "()I"⟩
abbrev cX6_isDigit : ByteArray := prog_8_method_22_code
def yX6_isDigit : MethodName := ⟨RX6, "isDigit", "(I)Z"⟩
def RX7 : String := "PairKeeper$Search"
def TX7 : u_T := fun k => match k with
  | 0 => ("PairKeeper$Search", "pairs", "LPairKeeper$Pairs;", true)
  | 1 => ("PairKeeper$Search", "rows", "[I", true)
  | 2 => ("PairKeeper$Search", "queue", "[I", true)
  | 3 => ("PairKeeper$Search", "from", "[I", true)
  | 4 => ("PairKeeper$Search", "way", "[I", true)
  | 5 => ("PairKeeper$Search", "length", "I", false)
  | 6 => ("PairKeeper$Search", "workers", "I", false)
  | 7 => ("PairKeeper$Search", "tasks", "I", false)
  | 8 => ("PairKeeper$Search", "workersThere", "I", false)
  | _ => ("PairKeeper$Search", "tasksThere", "I", false)
def tyX7 : Nat → FieldType := fun k => match k with
  | 0 => .object "PairKeeper$Pairs"
  | 1 => .array .int
  | 2 => .array .int
  | 3 => .array .int
  | 4 => .array .int
  | 5 => .int
  | 6 => .int
  | 7 => .int
  | 8 => .int
  | _ => .int
abbrev wsX70 : List Cond := u_ws RX7 TX7 10
theorem nmX7 : ∀ a, a < 10 → ∀ b, b < 10 → a ≠ b → (TX7 a).2.1 ≠ (TX7 b).2.1 := by decide +kernel
theorem tyX7_ok : ∀ k, k < 10 → parseFieldDescriptor (TX7 k).2.2.1 = some (tyX7 k) := by decide +kernel
abbrev cX7_init : ByteArray := prog_9_method_1_code
def yX7_init : MethodName := ⟨RX7, "<init>", "()V"⟩
abbrev cX7_load : ByteArray := prog_9_method_2_code
def yX7_load : MethodName := ⟨RX7, "load", "(LPairKeeper$Book;)V"⟩
abbrev cX7_row : ByteArray := prog_9_method_3_code
def yX7_row : MethodName := ⟨RX7, "row", "(I)I"⟩
abbrev cX7_isOpen : ByteArray := prog_9_method_4_code
def yX7_isOpen : MethodName := ⟨RX7, "isOpen", "(II)Z"⟩
abbrev cX7_open : ByteArray := prog_9_method_5_code
def yX7_open : MethodName := ⟨RX7, "open", "(II)V"⟩
abbrev cX7_shut : ByteArray := prog_9_method_6_code
def yX7_shut : MethodName := ⟨RX7, "shut", "(II)V"⟩
abbrev cX7_leaveOut : ByteArray := prog_9_method_9_code
def yX7_leaveOut : MethodName := ⟨RX7, "leaveOut", "(II)V"⟩
abbrev cX7_find : ByteArray := prog_9_method_10_code
def yX7_find : MethodName := ⟨RX7, "find", "(I)I"⟩
abbrev cX7_trace : ByteArray := prog_9_method_11_code
def yX7_trace : MethodName := ⟨RX7, "trace", "(I)V"⟩
abbrev cX7_wayAtPlace : ByteArray := prog_9_method_12_code
def yX7_wayAtPlace : MethodName := ⟨RX7, "wayAtPlace", "(I)I"⟩
abbrev cX7_findFirst : ByteArray := prog_9_method_13_code
def yX7_findFirst : MethodName := ⟨RX7, "findFirst", "()I"⟩
abbrev cX7_follow : ByteArray := prog_9_method_14_code
def yX7_follow : MethodName := ⟨RX7, "follow", "()V"⟩
abbrev cX7_grow : ByteArray := prog_9_method_15_code
def yX7_grow : MethodName := ⟨RX7, "grow", "(I)I"⟩
def RX8 : String := "PairKeeper$Tally"
def TX8 : u_T := fun k => match k with
  | 0 => ("PairKeeper$Tally", "ways", "[J", true)
  | 1 => ("PairKeeper$Tally", "leastWays", "[J", true)
  | 2 => ("PairKeeper$Tally", "codes", "[J", true)
  | 3 => ("PairKeeper$Tally", "leastCosts", "[I", true)
  | 4 => ("PairKeeper$Tally", "cheapTasks", "[I", true)
  | 5 => ("PairKeeper$Tally", "many", "J", false)
  | 6 => ("PairKeeper$Tally", "cheapMany", "J", false)
  | _ => ("PairKeeper$Tally", "leastCost", "I", false)
def tyX8 : Nat → FieldType := fun k => match k with
  | 0 => .array .long
  | 1 => .array .long
  | 2 => .array .long
  | 3 => .array .int
  | 4 => .array .int
  | 5 => .long
  | 6 => .long
  | _ => .int
abbrev wsX80 : List Cond := u_ws RX8 TX8 8
theorem nmX8 : ∀ a, a < 8 → ∀ b, b < 8 → a ≠ b → (TX8 a).2.1 ≠ (TX8 b).2.1 := by decide +kernel
theorem tyX8_ok : ∀ k, k < 8 → parseFieldDescriptor (TX8 k).2.2.1 = some (tyX8 k) := by decide +kernel
abbrev cX8_init : ByteArray := prog_10_method_1_code
def yX8_init : MethodName := ⟨RX8, "<init>", "()V"⟩
abbrev cX8_run : ByteArray := prog_10_method_2_code
def yX8_run : MethodName := ⟨RX8, "run", "(LPairKeeper$Book;LPairKeeper$Search;I)V"⟩
abbrev cX8_extend : ByteArray := prog_10_method_3_code
def yX8_extend : MethodName := ⟨RX8, "extend", "(LPairKeeper$Book;IIJII)V"⟩
abbrev cX8_put : ByteArray := prog_10_method_4_code
def yX8_put : MethodName := ⟨RX8, "put", "(IIIJ)V"⟩
abbrev cX8_finish : ByteArray := prog_10_method_5_code
def yX8_finish : MethodName := ⟨RX8, "finish", "(II)V"⟩
abbrev cX8_decode : ByteArray := prog_10_method_6_code
def yX8_decode : MethodName := ⟨RX8, "decode", "(J)V"⟩
def RX9 : String := "PairKeeper"
def TX9 : u_T := fun k => match k with
  | 0 => ("PairKeeper", "book", "LPairKeeper$Book;", true)
  | 1 => ("PairKeeper", "draft", "LPairKeeper$Book;", true)
  | 2 => ("PairKeeper", "history", "LPairKeeper$History;", true)
  | 3 => ("PairKeeper", "reader", "LPairKeeper$Reader;", true)
  | 4 => ("PairKeeper", "search", "LPairKeeper$Search;", true)
  | 5 => ("PairKeeper", "reach", "LPairKeeper$Reach;", true)
  | 6 => ("PairKeeper", "phasing", "LPairKeeper$Phasing;", true)
  | 7 => ("PairKeeper", "tally", "LPairKeeper$Tally;", true)
  | 8 => ("PairKeeper", "calendar", "LPairKeeper$Calendar;", true)
  | 9 => ("PairKeeper", "tallied", "Z", false)
  | 10 => ("PairKeeper", "placesRefused", "I", false)
  | _ => ("PairKeeper", "argumentsRefused", "I", false)
def tyX9 : Nat → FieldType := fun k => match k with
  | 0 => .object "PairKeeper$Book"
  | 1 => .object "PairKeeper$Book"
  | 2 => .object "PairKeeper$History"
  | 3 => .object "PairKeeper$Reader"
  | 4 => .object "PairKeeper$Search"
  | 5 => .object "PairKeeper$Reach"
  | 6 => .object "PairKeeper$Phasing"
  | 7 => .object "PairKeeper$Tally"
  | 8 => .object "PairKeeper$Calendar"
  | 9 => .boolean
  | 10 => .int
  | _ => .int
abbrev wsX90 : List Cond := u_ws RX9 TX9 12
theorem nmX9 : ∀ a, a < 12 → ∀ b, b < 12 → a ≠ b → (TX9 a).2.1 ≠ (TX9 b).2.1 := by decide +kernel
theorem tyX9_ok : ∀ k, k < 12 → parseFieldDescriptor (TX9 k).2.2.1 = some (tyX9 k) := by decide +kernel
abbrev cX9_init : ByteArray := prog_1_method_1_code
def yX9_init : MethodName := ⟨RX9, "<init>", "()V"⟩
abbrev cX9_feed : ByteArray := prog_1_method_2_code
def yX9_feed : MethodName := ⟨RX9, "feed", "(IIIII)I"⟩
abbrev cX9_text : ByteArray := prog_1_method_3_code
def yX9_text : MethodName := ⟨RX9, "text", "(I)I"⟩
abbrev cX9_told : ByteArray := prog_1_method_5_code
def yX9_told : MethodName := ⟨RX9, "told", "(I)I"⟩
abbrev cX9_partner : ByteArray := prog_1_method_6_code
def yX9_partner : MethodName := ⟨RX9, "partner", "(II)I"⟩
abbrev cX9_cost : ByteArray := prog_1_method_7_code
def yX9_cost : MethodName := ⟨RX9, "cost", "(II)I"⟩
abbrev cX9_fits : ByteArray := prog_1_method_8_code
def yX9_fits : MethodName := ⟨RX9, "fits", "(II)I"⟩
abbrev cX9_way : ByteArray := prog_1_method_9_code
def yX9_way : MethodName := ⟨RX9, "way", "()I"⟩
abbrev cX9_wayAt : ByteArray := prog_1_method_10_code
def yX9_wayAt : MethodName := ⟨RX9, "wayAt", "(I)I"⟩
abbrev cX9_wayFrom : ByteArray := prog_1_method_11_code
def yX9_wayFrom : MethodName := ⟨RX9, "wayFrom", "(II)I"⟩
abbrev cX9_phases : ByteArray := prog_1_method_12_code
def yX9_phases : MethodName := ⟨RX9, "phases", "(I)I"⟩
abbrev cX9_phased : ByteArray := prog_1_method_13_code
def yX9_phased : MethodName := ⟨RX9, "phased", "(I)I"⟩
abbrev cX9_most : ByteArray := prog_1_method_14_code
def yX9_most : MethodName := ⟨RX9, "most", "()I"⟩
abbrev cX9_reached : ByteArray := prog_1_method_15_code
def yX9_reached : MethodName := ⟨RX9, "reached", "(I)I"⟩
abbrev cX9_cover : ByteArray := prog_1_method_16_code
def yX9_cover : MethodName := ⟨RX9, "cover", "(I)I"⟩
abbrev cX9_of : ByteArray := prog_1_method_17_code
def yX9_of : MethodName := ⟨RX9, "of", "(III)I"⟩
abbrev cX9_fit : ByteArray := prog_1_method_18_code
def yX9_fit : MethodName := ⟨RX9, "fit", "(II)I"⟩
abbrev cX9_fitMany : ByteArray := prog_1_method_19_code
def yX9_fitMany : MethodName := ⟨RX9, "fitMany", "(I)I"⟩
abbrev cX9_lack : ByteArray := prog_1_method_20_code
def yX9_lack : MethodName := ⟨RX9, "lack", "(I)I"⟩
abbrev cX9_hall : ByteArray := prog_1_method_21_code
def yX9_hall : MethodName := ⟨RX9, "hall", "(I)I"⟩
abbrev cX9_many : ByteArray := prog_1_method_22_code
def yX9_many : MethodName := ⟨RX9, "many", "()J"⟩
abbrev cX9_cheap : ByteArray := prog_1_method_23_code
def yX9_cheap : MethodName := ⟨RX9, "cheap", "(I)I"⟩
abbrev cX9_more : ByteArray := prog_1_method_26_code
def yX9_more : MethodName := ⟨RX9, "more", "(I)I"⟩
abbrev cX9_fewest : ByteArray := prog_1_method_27_code
def yX9_fewest : MethodName := ⟨RX9, "fewest", "(I)I"⟩
abbrev cX9_chosen : ByteArray := prog_1_method_28_code
def yX9_chosen : MethodName := ⟨RX9, "chosen", "(I)I"⟩
abbrev cX9_rounds : ByteArray := prog_1_method_29_code
def yX9_rounds : MethodName := ⟨RX9, "rounds", "()I"⟩
abbrev cX9_round : ByteArray := prog_1_method_30_code
def yX9_round : MethodName := ⟨RX9, "round", "(II)I"⟩
abbrev cX9_add : ByteArray := prog_1_method_31_code
def yX9_add : MethodName := ⟨RX9, "add", "(III)I"⟩
abbrev cX9_drop : ByteArray := prog_1_method_32_code
def yX9_drop : MethodName := ⟨RX9, "drop", "(II)I"⟩
abbrev cX9_is : ByteArray := prog_1_method_33_code
def yX9_is : MethodName := ⟨RX9, "is", "(III)I"⟩
abbrev cX9_pair : ByteArray := prog_1_method_34_code
def yX9_pair : MethodName := ⟨RX9, "pair", "(II)I"⟩
abbrev cX9_part : ByteArray := prog_1_method_35_code
def yX9_part : MethodName := ⟨RX9, "part", "(I)I"⟩
abbrev cX9_weight : ByteArray := prog_1_method_36_code
def yX9_weight : MethodName := ⟨RX9, "weight", "(II)I"⟩
abbrev cX9_trade : ByteArray := prog_1_method_37_code
def yX9_trade : MethodName := ⟨RX9, "trade", "()I"⟩
abbrev cX9_keep : ByteArray := prog_1_method_38_code
def yX9_keep : MethodName := ⟨RX9, "keep", "(I)I"⟩
abbrev cX9_settle : ByteArray := prog_1_method_39_code
def yX9_settle : MethodName := ⟨RX9, "settle", "(I)I"⟩
abbrev cX9_undo : ByteArray := prog_1_method_40_code
def yX9_undo : MethodName := ⟨RX9, "undo", "()I"⟩
abbrev cX9_demand : ByteArray := prog_1_method_43_code
def yX9_demand : MethodName := ⟨RX9, "demand", "(Z)V"⟩
abbrev cX9_demandPlace : ByteArray := prog_1_method_44_code
def yX9_demandPlace : MethodName := ⟨RX9, "demandPlace", "(Z)V"⟩
abbrev cX9_beginAct : ByteArray := prog_1_method_45_code
def yX9_beginAct : MethodName := ⟨RX9, "beginAct", "()V"⟩
abbrev cX9_keepUp : ByteArray := prog_1_method_46_code
def yX9_keepUp : MethodName := ⟨RX9, "keepUp", "()V"⟩
abbrev cX9_makeMost : ByteArray := prog_1_method_47_code
def yX9_makeMost : MethodName := ⟨RX9, "makeMost", "()I"⟩
abbrev cX9_runPhases : ByteArray := prog_1_method_48_code
def yX9_runPhases : MethodName := ⟨RX9, "runPhases", "()V"⟩
abbrev cX9_runTally : ByteArray := prog_1_method_49_code
def yX9_runTally : MethodName := ⟨RX9, "runTally", "()V"⟩
abbrev cX9_partOf : ByteArray := prog_1_method_50_code
def yX9_partOf : MethodName := ⟨RX9, "partOf", "(II)I"⟩
abbrev cX9_kindOf : ByteArray := prog_1_method_51_code
def yX9_kindOf : MethodName := ⟨RX9, "kindOf", "(II)I"⟩
abbrev cX9_wouldGrow : ByteArray := prog_1_method_52_code
def yX9_wouldGrow : MethodName := ⟨RX9, "wouldGrow", "(II)Z"⟩
abbrev cX9_firstAlways : ByteArray := prog_1_method_53_code
def yX9_firstAlways : MethodName := ⟨RX9, "firstAlways", "()I"⟩
abbrev cX9_firstOfTwo : ByteArray := prog_1_method_54_code
def yX9_firstOfTwo : MethodName := ⟨RX9, "firstOfTwo", "()I"⟩
abbrev cX9_bit : ByteArray := prog_1_method_55_code
def yX9_bit : MethodName := ⟨RX9, "bit", "(I)I"⟩
abbrev cX9_has : ByteArray := prog_1_method_56_code
def yX9_has : MethodName := ⟨RX9, "has", "(II)Z"⟩
abbrev cX9_inLimit : ByteArray := prog_1_method_57_code
def yX9_inLimit : MethodName := ⟨RX9, "inLimit", "(I)Z"⟩
def RX10 : String := "PairKeeperLaw$Book"
def TX10 : u_T := fun k => match k with
  | 0 => ("PairKeeperLaw$Book", "n", "I", false)
  | 1 => ("PairKeeperLaw$Book", "m", "I", false)
  | 2 => ("PairKeeperLaw$Book", "keeps", "Z", false)
  | 3 => ("PairKeeperLaw$Book", "workers", "I", false)
  | 4 => ("PairKeeperLaw$Book", "tasks", "I", false)
  | 5 => ("PairKeeperLaw$Book", "cost", "[[I", false)
  | 6 => ("PairKeeperLaw$Book", "mate", "[I", false)
  | _ => ("PairKeeperLaw$Book", "weight", "[I", false)
def tyX10 : Nat → FieldType := fun k => match k with
  | 0 => .int
  | 1 => .int
  | 2 => .boolean
  | 3 => .int
  | 4 => .int
  | 5 => .array (.array .int)
  | 6 => .array .int
  | _ => .array .int
abbrev wsX100 : List Cond := u_ws RX10 TX10 8
theorem nmX10 : ∀ a, a < 8 → ∀ b, b < 8 → a ≠ b → (TX10 a).2.1 ≠ (TX10 b).2.1 := by decide +kernel
theorem tyX10_ok : ∀ k, k < 8 → parseFieldDescriptor (TX10 k).2.2.1 = some (tyX10 k) := by decide +kernel
abbrev cX10_init : ByteArray := prog_12_method_1_code
def yX10_init : MethodName := ⟨RX10, "<init>", "()V"⟩
abbrev cX10_like : ByteArray := prog_12_method_2_code
def yX10_like : MethodName := ⟨RX10, "like", "()LPairKeeperLaw$Book;"⟩
abbrev cX10_can : ByteArray := prog_12_method_3_code
def yX10_can : MethodName := ⟨RX10, "can", "(II)Z"⟩
abbrev cX10_owner : ByteArray := prog_12_method_4_code
def yX10_owner : MethodName := ⟨RX10, "owner", "(I)I"⟩
abbrev cX10_pairs : ByteArray := prog_12_method_5_code
def yX10_pairs : MethodName := ⟨RX10, "pairs", "()I"⟩
abbrev cX10_most : ByteArray := prog_12_method_6_code
def yX10_most : MethodName := ⟨RX10, "most", "(II)I"⟩
abbrev cX10_all : ByteArray := prog_12_method_7_code
def yX10_all : MethodName := ⟨RX10, "all", "(III)[J"⟩
abbrev cX10_way : ByteArray := prog_12_method_8_code
def yX10_way : MethodName := ⟨RX10, "way", "(I)[I"⟩
abbrev cX10_goes : ByteArray := prog_12_method_9_code
def yX10_goes : MethodName := ⟨RX10, "goes", "([IIIII)Z"⟩
abbrev cX10_theWay : ByteArray := prog_12_method_10_code
def yX10_theWay : MethodName := ⟨RX10, "theWay", "()[I"⟩
abbrev cX10_settles : ByteArray := prog_12_method_11_code
def yX10_settles : MethodName := ⟨RX10, "settles", "(I)I"⟩
abbrev cX10_chosen : ByteArray := prog_12_method_12_code
def yX10_chosen : MethodName := ⟨RX10, "chosen", "()I"⟩
abbrev cX10_trades : ByteArray := prog_12_method_13_code
def yX10_trades : MethodName := ⟨RX10, "trades", "()I"⟩
abbrev cX10_reached : ByteArray := prog_12_method_14_code
def yX10_reached : MethodName := ⟨RX10, "reached", "()[I"⟩
def RX11 : String := "PairKeeperModel"
def TX11 : u_T := fun k => match k with
  | _ => ("", "", "", false)
def tyX11 : Nat → FieldType := fun k => match k with
  | _ => .int
abbrev wsX110 : List Cond := u_ws RX11 TX11 0
theorem nmX11 : ∀ a, a < 0 → ∀ b, b < 0 → a ≠ b → (TX11 a).2.1 ≠ (TX11 b).2.1 := by decide +kernel
theorem tyX11_ok : ∀ k, k < 0 → parseFieldDescriptor (TX11 k).2.2.1 = some (tyX11 k) := by decide +kernel
def RJx145de : String := "java/io/Serializable"
def TJx145de : u_T := fun k => match k with
  | _ => ("", "", "", false)
def tyJx145de : Nat → FieldType := fun k => match k with
  | _ => .int
abbrev wsJx145de0 : List Cond := u_ws RJx145de TJx145de 0
theorem nmJx145de : ∀ a, a < 0 → ∀ b, b < 0 → a ≠ b → (TJx145de a).2.1 ≠ (TJx145de b).2.1 := by decide +kernel
theorem tyJx145de_ok : ∀ k, k < 0 → parseFieldDescriptor (TJx145de k).2.2.1 = some (tyJx145de k) := by decide +kernel
def RJx9f9b0 : String := "java/lang/CharSequence"
def TJx9f9b0 : u_T := fun k => match k with
  | _ => ("", "", "", false)
def tyJx9f9b0 : Nat → FieldType := fun k => match k with
  | _ => .int
abbrev wsJx9f9b00 : List Cond := u_ws RJx9f9b0 TJx9f9b0 0
theorem nmJx9f9b0 : ∀ a, a < 0 → ∀ b, b < 0 → a ≠ b → (TJx9f9b0 a).2.1 ≠ (TJx9f9b0 b).2.1 := by decide +kernel
theorem tyJx9f9b0_ok : ∀ k, k < 0 → parseFieldDescriptor (TJx9f9b0 k).2.2.1 = some (tyJx9f9b0 k) := by decide +kernel
def RJx8e188 : String := "java/lang/Cloneable"
def TJx8e188 : u_T := fun k => match k with
  | _ => ("", "", "", false)
def tyJx8e188 : Nat → FieldType := fun k => match k with
  | _ => .int
abbrev wsJx8e1880 : List Cond := u_ws RJx8e188 TJx8e188 0
theorem nmJx8e188 : ∀ a, a < 0 → ∀ b, b < 0 → a ≠ b → (TJx8e188 a).2.1 ≠ (TJx8e188 b).2.1 := by decide +kernel
theorem tyJx8e188_ok : ∀ k, k < 0 → parseFieldDescriptor (TJx8e188 k).2.2.1 = some (tyJx8e188 k) := by decide +kernel
def RJxb160c : String := "java/lang/Comparable"
def TJxb160c : u_T := fun k => match k with
  | _ => ("", "", "", false)
def tyJxb160c : Nat → FieldType := fun k => match k with
  | _ => .int
abbrev wsJxb160c0 : List Cond := u_ws RJxb160c TJxb160c 0
theorem nmJxb160c : ∀ a, a < 0 → ∀ b, b < 0 → a ≠ b → (TJxb160c a).2.1 ≠ (TJxb160c b).2.1 := by decide +kernel
theorem tyJxb160c_ok : ∀ k, k < 0 → parseFieldDescriptor (TJxb160c k).2.2.1 = some (tyJxb160c k) := by decide +kernel
def RJ6 : String := "java/lang/Integer"
def TJ6 : u_T := fun k => match k with
  | _ => ("", "", "", false)
def tyJ6 : Nat → FieldType := fun k => match k with
  | _ => .int
abbrev wsJ60 : List Cond := u_ws RJ6 TJ6 0
theorem nmJ6 : ∀ a, a < 0 → ∀ b, b < 0 → a ≠ b → (TJ6 a).2.1 ≠ (TJ6 b).2.1 := by decide +kernel
theorem tyJ6_ok : ∀ k, k < 0 → parseFieldDescriptor (TJ6 k).2.2.1 = some (tyJ6 k) := by decide +kernel
abbrev cJ6_bitCount_0f7a4 : ByteArray := prog_20_method_49_code
def yJ6_bitCount_0f7a4 : MethodName := ⟨RJ6, "bitCount", "(I)I"⟩
def RJ9 : String := "java/lang/Math"
def TJ9 : u_T := fun k => match k with
  | _ => ("", "", "", false)
def tyJ9 : Nat → FieldType := fun k => match k with
  | _ => .int
abbrev wsJ90 : List Cond := u_ws RJ9 TJ9 0
theorem nmJ9 : ∀ a, a < 0 → ∀ b, b < 0 → a ≠ b → (TJ9 a).2.1 ≠ (TJ9 b).2.1 := by decide +kernel
theorem tyJ9_ok : ∀ k, k < 0 → parseFieldDescriptor (TJ9 k).2.2.1 = some (tyJ9 k) := by decide +kernel
abbrev cJ9_max_7cf53 : ByteArray := prog_21_method_65_code
def yJ9_max_7cf53 : MethodName := ⟨RJ9, "max", "(II)I"⟩
abbrev cJ9_min_7cf53 : ByteArray := prog_21_method_69_code
def yJ9_min_7cf53 : MethodName := ⟨RJ9, "min", "(II)I"⟩
abbrev cJ9_min_f86c9 : ByteArray := prog_21_method_70_code
def yJ9_min_f86c9 : MethodName := ⟨RJ9, "min", "(JJ)J"⟩
def RJ0 : String := "java/lang/String"
def TJ0 : u_T := fun k => match k with
  | _ => ("", "", "", false)
def tyJ0 : Nat → FieldType := fun k => match k with
  | _ => .int
abbrev wsJ00 : List Cond := u_ws RJ0 TJ0 0
theorem nmJ0 : ∀ a, a < 0 → ∀ b, b < 0 → a ≠ b → (TJ0 a).2.1 ≠ (TJ0 b).2.1 := by decide +kernel
theorem tyJ0_ok : ∀ k, k < 0 → parseFieldDescriptor (TJ0 k).2.2.1 = some (tyJ0 k) := by decide +kernel
abbrev cJ0_length_8abf5 : ByteArray := prog_23_method_54_code
def yJ0_length_8abf5 : MethodName := ⟨RJ0, "length", "()I"⟩
abbrev cJ0_charAt_5068e : ByteArray := prog_23_method_56_code
def yJ0_charAt_5068e : MethodName := ⟨RJ0, "charAt", "(I)C"⟩
abbrev cJ0_coder_7d493 : ByteArray := prog_23_method_152_code
def yJ0_coder_7d493 : MethodName := ⟨RJ0, "coder", "()B"⟩
abbrev cJ0_isLatin1_aae02 : ByteArray := prog_23_method_154_code
def yJ0_isLatin1_aae02 : MethodName := ⟨RJ0, "isLatin1", "()Z"⟩
abbrev cJ0_checkIndex_df160 : ByteArray := prog_23_method_155_code
def yJ0_checkIndex_df160 : MethodName := ⟨RJ0, "checkIndex", "(II)V"⟩
def RJ1 : String := "java/lang/StringLatin1"
def TJ1 : u_T := fun k => match k with
  | _ => ("", "", "", false)
def tyJ1 : Nat → FieldType := fun k => match k with
  | _ => .int
abbrev wsJ10 : List Cond := u_ws RJ1 TJ1 0
theorem nmJ1 : ∀ a, a < 0 → ∀ b, b < 0 → a ≠ b → (TJ1 a).2.1 ≠ (TJ1 b).2.1 := by decide +kernel
theorem tyJ1_ok : ∀ k, k < 0 → parseFieldDescriptor (TJ1 k).2.2.1 = some (tyJ1 k) := by decide +kernel
abbrev cJ1_charAt_3b067 : ByteArray := prog_24_method_2_code
def yJ1_charAt_3b067 : MethodName := ⟨RJ1, "charAt", "([BI)C"⟩
def RJ2 : String := "java/lang/StringUTF16"
def TJ2 : u_T := fun k => match k with
  | _ => ("", "", "", false)
def tyJ2 : Nat → FieldType := fun k => match k with
  | _ => .int
abbrev wsJ20 : List Cond := u_ws RJ2 TJ2 0
theorem nmJ2 : ∀ a, a < 0 → ∀ b, b < 0 → a ≠ b → (TJ2 a).2.1 ≠ (TJ2 b).2.1 := by decide +kernel
theorem tyJ2_ok : ∀ k, k < 0 → parseFieldDescriptor (TJ2 k).2.2.1 = some (tyJ2 k) := by decide +kernel
abbrev cJ2_getChar_3b067 : ByteArray := prog_25_method_5_code
def yJ2_getChar_3b067 : MethodName := ⟨RJ2, "getChar", "([BI)C"⟩
abbrev cJ2_length_9d52b : ByteArray := prog_25_method_6_code
def yJ2_length_9d52b : MethodName := ⟨RJ2, "length", "([B)I"⟩
abbrev cJ2_charAt_3b067 : ByteArray := prog_25_method_83_code
def yJ2_charAt_3b067 : MethodName := ⟨RJ2, "charAt", "([BI)C"⟩
abbrev cJ2_checkIndex_2214a : ByteArray := prog_25_method_91_code
def yJ2_checkIndex_2214a : MethodName := ⟨RJ2, "checkIndex", "(I[B)V"⟩
def RJ10 : String := "java/lang/System"
def TJ10 : u_T := fun k => match k with
  | _ => ("", "", "", false)
def tyJ10 : Nat → FieldType := fun k => match k with
  | _ => .int
abbrev wsJ100 : List Cond := u_ws RJ10 TJ10 0
theorem nmJ10 : ∀ a, a < 0 → ∀ b, b < 0 → a ≠ b → (TJ10 a).2.1 ≠ (TJ10 b).2.1 := by decide +kernel
theorem tyJ10_ok : ∀ k, k < 0 → parseFieldDescriptor (TJ10 k).2.2.1 = some (tyJ10 k) := by decide +kernel
def RJxfd54e : String := "java/lang/constant/Constable"
def TJxfd54e : u_T := fun k => match k with
  | _ => ("", "", "", false)
def tyJxfd54e : Nat → FieldType := fun k => match k with
  | _ => .int
abbrev wsJxfd54e0 : List Cond := u_ws RJxfd54e TJxfd54e 0
theorem nmJxfd54e : ∀ a, a < 0 → ∀ b, b < 0 → a ≠ b → (TJxfd54e a).2.1 ≠ (TJxfd54e b).2.1 := by decide +kernel
theorem tyJxfd54e_ok : ∀ k, k < 0 → parseFieldDescriptor (TJxfd54e k).2.2.1 = some (tyJxfd54e k) := by decide +kernel
def RJx3cf43 : String := "java/lang/constant/ConstantDesc"
def TJx3cf43 : u_T := fun k => match k with
  | _ => ("", "", "", false)
def tyJx3cf43 : Nat → FieldType := fun k => match k with
  | _ => .int
abbrev wsJx3cf430 : List Cond := u_ws RJx3cf43 TJx3cf43 0
theorem nmJx3cf43 : ∀ a, a < 0 → ∀ b, b < 0 → a ≠ b → (TJx3cf43 a).2.1 ≠ (TJx3cf43 b).2.1 := by decide +kernel
theorem tyJx3cf43_ok : ∀ k, k < 0 → parseFieldDescriptor (TJx3cf43 k).2.2.1 = some (tyJx3cf43 k) := by decide +kernel
def RJ3 : String := "jdk/internal/util/Preconditions"
def TJ3 : u_T := fun k => match k with
  | _ => ("", "", "", false)
def tyJ3 : Nat → FieldType := fun k => match k with
  | _ => .int
abbrev wsJ30 : List Cond := u_ws RJ3 TJ3 0
theorem nmJ3 : ∀ a, a < 0 → ∀ b, b < 0 → a ≠ b → (TJ3 a).2.1 ≠ (TJ3 b).2.1 := by decide +kernel
theorem tyJ3_ok : ∀ k, k < 0 → parseFieldDescriptor (TJ3 k).2.2.1 = some (tyJ3 k) := by decide +kernel
abbrev cJ3_checkIndex_8e157 : ByteArray := prog_31_method_11_code
def yJ3_checkIndex_8e157 : MethodName := ⟨RJ3, "checkIndex", "(IILjava/util/function/BiFunction;)I"⟩
def RL : String := "PairKeeperLaw"
abbrev cL_put : ByteArray := method_2_code
def yL_put : MethodName := ⟨RL, "put", "(LPairKeeper;[IJ)V"⟩
abbrev cL_feed : ByteArray := method_3_code
def yL_feed : MethodName := ⟨RL, "feed", "(LPairKeeper;[I)V"⟩
abbrev cL_texts : ByteArray := method_4_code
def yL_texts : MethodName := ⟨RL, "texts", "(LPairKeeper;[I)I"⟩
abbrev cL_digits : ByteArray := method_5_code
def yL_digits : MethodName := ⟨RL, "digits", "(LPairKeeper;[II)V"⟩
abbrev cL_text : ByteArray := method_6_code
def yL_text : MethodName := ⟨RL, "text", "(LPairKeeper;I)I"⟩
abbrev cL_told : ByteArray := method_7_code
def yL_told : MethodName := ⟨RL, "told", "(LPairKeeper;I)I"⟩
abbrev cL_partner : ByteArray := method_8_code
def yL_partner : MethodName := ⟨RL, "partner", "(LPairKeeper;II)I"⟩
abbrev cL_cost : ByteArray := method_9_code
def yL_cost : MethodName := ⟨RL, "cost", "(LPairKeeper;II)I"⟩
abbrev cL_fits : ByteArray := method_10_code
def yL_fits : MethodName := ⟨RL, "fits", "(LPairKeeper;II)I"⟩
abbrev cL_wayAt : ByteArray := method_11_code
def yL_wayAt : MethodName := ⟨RL, "wayAt", "(LPairKeeper;I)I"⟩
abbrev cL_wayFrom : ByteArray := method_12_code
def yL_wayFrom : MethodName := ⟨RL, "wayFrom", "(LPairKeeper;II)I"⟩
abbrev cL_phases : ByteArray := method_13_code
def yL_phases : MethodName := ⟨RL, "phases", "(LPairKeeper;I)I"⟩
abbrev cL_phased : ByteArray := method_14_code
def yL_phased : MethodName := ⟨RL, "phased", "(LPairKeeper;I)I"⟩
abbrev cL_reached : ByteArray := method_15_code
def yL_reached : MethodName := ⟨RL, "reached", "(LPairKeeper;I)I"⟩
abbrev cL_cover : ByteArray := method_16_code
def yL_cover : MethodName := ⟨RL, "cover", "(LPairKeeper;I)I"⟩
abbrev cL_of : ByteArray := method_17_code
def yL_of : MethodName := ⟨RL, "of", "(LPairKeeper;III)I"⟩
abbrev cL_fit : ByteArray := method_18_code
def yL_fit : MethodName := ⟨RL, "fit", "(LPairKeeper;II)I"⟩
abbrev cL_fitMany : ByteArray := method_19_code
def yL_fitMany : MethodName := ⟨RL, "fitMany", "(LPairKeeper;I)I"⟩
abbrev cL_lack : ByteArray := method_20_code
def yL_lack : MethodName := ⟨RL, "lack", "(LPairKeeper;I)I"⟩
abbrev cL_hall : ByteArray := method_21_code
def yL_hall : MethodName := ⟨RL, "hall", "(LPairKeeper;I)I"⟩
abbrev cL_cheap : ByteArray := method_22_code
def yL_cheap : MethodName := ⟨RL, "cheap", "(LPairKeeper;I)I"⟩
abbrev cL_more : ByteArray := method_24_code
def yL_more : MethodName := ⟨RL, "more", "(LPairKeeper;I)I"⟩
abbrev cL_fewest : ByteArray := method_25_code
def yL_fewest : MethodName := ⟨RL, "fewest", "(LPairKeeper;I)I"⟩
abbrev cL_chosen : ByteArray := method_26_code
def yL_chosen : MethodName := ⟨RL, "chosen", "(LPairKeeper;I)I"⟩
abbrev cL_round : ByteArray := method_27_code
def yL_round : MethodName := ⟨RL, "round", "(LPairKeeper;II)I"⟩
abbrev cL_add : ByteArray := method_28_code
def yL_add : MethodName := ⟨RL, "add", "(LPairKeeper;III)I"⟩
abbrev cL_drop : ByteArray := method_29_code
def yL_drop : MethodName := ⟨RL, "drop", "(LPairKeeper;II)I"⟩
abbrev cL_is : ByteArray := method_30_code
def yL_is : MethodName := ⟨RL, "is", "(LPairKeeper;III)I"⟩
abbrev cL_pair : ByteArray := method_31_code
def yL_pair : MethodName := ⟨RL, "pair", "(LPairKeeper;II)I"⟩
abbrev cL_part : ByteArray := method_32_code
def yL_part : MethodName := ⟨RL, "part", "(LPairKeeper;I)I"⟩
abbrev cL_weight : ByteArray := method_33_code
def yL_weight : MethodName := ⟨RL, "weight", "(LPairKeeper;II)I"⟩
abbrev cL_keep : ByteArray := method_34_code
def yL_keep : MethodName := ⟨RL, "keep", "(LPairKeeper;I)I"⟩
abbrev cL_settle : ByteArray := method_35_code
def yL_settle : MethodName := ⟨RL, "settle", "(LPairKeeper;I)I"⟩
abbrev cL_tell : ByteArray := method_36_code
def yL_tell : MethodName := ⟨RL, "tell", "(LPairKeeper;[ILjava/lang/String;)V"⟩
abbrev cL_book : ByteArray := method_37_code
def yL_book : MethodName := ⟨RL, "book", "(LPairKeeper;[ILPairKeeperLaw$Book;III)Z"⟩
abbrev cL_isBook : ByteArray := method_38_code
def yL_isBook : MethodName := ⟨RL, "isBook", "(LPairKeeper;LPairKeeperLaw$Book;)Z"⟩
abbrev cL_isChosen : ByteArray := method_39_code
def yL_isChosen : MethodName := ⟨RL, "isChosen", "(LPairKeeper;LPairKeeperLaw$Book;)Z"⟩
abbrev cL_law : ByteArray := code
def yL_law : MethodName := ⟨RL, "law", "([I)Z"⟩
def tE : u_T := fun _ => ("", "", "", false)
abbrev vwCl : List vw_C := [(RX0, TX0, 10), (RX1, TX1, 6), (RX2, TX2, 3), (RX3, TX3, 2), (RX4, TX4, 9), (RX5, TX5, 5), (RX6, TX6, 8), (RX7, TX7, 10), (RX8, TX8, 8), (RX9, TX9, 12), (RX10, TX10, 8), ("java/lang/IllegalArgumentException", tE, 0), ("java/util/NoSuchElementException", tE, 0)]
