-- ===== PART A: goes FIRST, ahead of the names: the tables' words, and 'selects' of the private methods out of them =====
/-- a private method of a class that the tables say can be made, by its rows of tables_1 -/
def lw_okq (q : MethodName × Nat) : Prop := (q.1.cls ≠ "java/lang/invoke/MethodHandle" ∧ q.1.cls ≠ "java/lang/invoke/VarHandle") ∧ Cond.instantiable q.1.cls q.2 ∈ tables_1 ∧ Cond.privateMethod q.1 ∈ tables_1 ∧ Cond.instanceMethod q.1 ∈ tables_1
theorem lw_p0 : lw_okq (⟨"java/util/ArrayList", "add", "(Ljava/lang/Object;[Ljava/lang/Object;I)V"⟩, 3) := ⟨⟨by decide +kernel, by decide +kernel⟩, List.mem_of_getElem? (i := 229) (by decide +kernel), List.mem_of_getElem? (i := 521) (by decide +kernel), List.mem_of_getElem? (i := 522) (by decide +kernel)⟩
theorem lw_p1 : lw_okq (⟨"java/util/ArrayList", "grow", "()[Ljava/lang/Object;"⟩, 3) := ⟨⟨by decide +kernel, by decide +kernel⟩, List.mem_of_getElem? (i := 229) (by decide +kernel), List.mem_of_getElem? (i := 525) (by decide +kernel), List.mem_of_getElem? (i := 526) (by decide +kernel)⟩
theorem lw_p2 : lw_okq (⟨"java/util/ArrayList", "grow", "(I)[Ljava/lang/Object;"⟩, 3) := ⟨⟨by decide +kernel, by decide +kernel⟩, List.mem_of_getElem? (i := 229) (by decide +kernel), List.mem_of_getElem? (i := 529) (by decide +kernel), List.mem_of_getElem? (i := 530) (by decide +kernel)⟩
theorem lw_p3 : lw_okq (⟨"Lanternserver", "servedMany", "()I"⟩, 17) := ⟨⟨by decide +kernel, by decide +kernel⟩, List.mem_of_getElem? (i := 46) (by decide +kernel), List.mem_of_getElem? (i := 664) (by decide +kernel), List.mem_of_getElem? (i := 665) (by decide +kernel)⟩
theorem lw_p4 : lw_okq (⟨"Lanternserver", "isServedNaively", "(I)Z"⟩, 17) := ⟨⟨by decide +kernel, by decide +kernel⟩, List.mem_of_getElem? (i := 46) (by decide +kernel), List.mem_of_getElem? (i := 668) (by decide +kernel), List.mem_of_getElem? (i := 669) (by decide +kernel)⟩
theorem lw_p5 : lw_okq (⟨"Lanternserver", "servedNumber", "(II)I"⟩, 17) := ⟨⟨by decide +kernel, by decide +kernel⟩, List.mem_of_getElem? (i := 46) (by decide +kernel), List.mem_of_getElem? (i := 672) (by decide +kernel), List.mem_of_getElem? (i := 673) (by decide +kernel)⟩
theorem lw_p6 : lw_okq (⟨"Lanternserver", "hasConnection", "(I)Z"⟩, 17) := ⟨⟨by decide +kernel, by decide +kernel⟩, List.mem_of_getElem? (i := 46) (by decide +kernel), List.mem_of_getElem? (i := 680) (by decide +kernel), List.mem_of_getElem? (i := 681) (by decide +kernel)⟩
theorem lw_p7 : lw_okq (⟨"Lanternserver$Reader", "feedBody", "(I)I"⟩, 19) := ⟨⟨by decide +kernel, by decide +kernel⟩, List.mem_of_getElem? (i := 374) (by decide +kernel), List.mem_of_getElem? (i := 712) (by decide +kernel), List.mem_of_getElem? (i := 713) (by decide +kernel)⟩
theorem lw_p8 : lw_okq (⟨"Lanternserver$Reader", "feedSize", "(I)I"⟩, 19) := ⟨⟨by decide +kernel, by decide +kernel⟩, List.mem_of_getElem? (i := 374) (by decide +kernel), List.mem_of_getElem? (i := 730) (by decide +kernel), List.mem_of_getElem? (i := 731) (by decide +kernel)⟩
theorem lw_p9 : lw_okq (⟨"Lanternserver$Reader", "expect", "(III)I"⟩, 19) := ⟨⟨by decide +kernel, by decide +kernel⟩, List.mem_of_getElem? (i := 374) (by decide +kernel), List.mem_of_getElem? (i := 735) (by decide +kernel), List.mem_of_getElem? (i := 736) (by decide +kernel)⟩
theorem lw_p10 : lw_okq (⟨"Lanternserver$Reader", "wrongInHead", "(I)I"⟩, 19) := ⟨⟨by decide +kernel, by decide +kernel⟩, List.mem_of_getElem? (i := 374) (by decide +kernel), List.mem_of_getElem? (i := 739) (by decide +kernel), List.mem_of_getElem? (i := 740) (by decide +kernel)⟩
theorem lw_p11 : lw_okq (⟨"Lanternserver$Reader", "canStand", "(I)Z"⟩, 19) := ⟨⟨by decide +kernel, by decide +kernel⟩, List.mem_of_getElem? (i := 374) (by decide +kernel), List.mem_of_getElem? (i := 743) (by decide +kernel), List.mem_of_getElem? (i := 744) (by decide +kernel)⟩
theorem lw_p12 : lw_okq (⟨"Lanternserver$Reader", "stepOn", "(I)V"⟩, 19) := ⟨⟨by decide +kernel, by decide +kernel⟩, List.mem_of_getElem? (i := 374) (by decide +kernel), List.mem_of_getElem? (i := 747) (by decide +kernel), List.mem_of_getElem? (i := 748) (by decide +kernel)⟩
theorem lw_p13 : lw_okq (⟨"Lanternserver$Reader", "methodIn", "()I"⟩, 19) := ⟨⟨by decide +kernel, by decide +kernel⟩, List.mem_of_getElem? (i := 374) (by decide +kernel), List.mem_of_getElem? (i := 751) (by decide +kernel), List.mem_of_getElem? (i := 752) (by decide +kernel)⟩
theorem lw_p14 : lw_okq (⟨"Lanternserver$Reader", "judge", "()I"⟩, 19) := ⟨⟨by decide +kernel, by decide +kernel⟩, List.mem_of_getElem? (i := 374) (by decide +kernel), List.mem_of_getElem? (i := 811) (by decide +kernel), List.mem_of_getElem? (i := 812) (by decide +kernel)⟩
theorem lw_p15 : lw_okq (⟨"Lanternserver$Reader", "noteVersion", "()V"⟩, 19) := ⟨⟨by decide +kernel, by decide +kernel⟩, List.mem_of_getElem? (i := 374) (by decide +kernel), List.mem_of_getElem? (i := 815) (by decide +kernel), List.mem_of_getElem? (i := 816) (by decide +kernel)⟩
def lw_privs_1 : List (MethodName × Nat) := [(⟨"java/util/ArrayList", "add", "(Ljava/lang/Object;[Ljava/lang/Object;I)V"⟩, 3), (⟨"java/util/ArrayList", "grow", "()[Ljava/lang/Object;"⟩, 3), (⟨"java/util/ArrayList", "grow", "(I)[Ljava/lang/Object;"⟩, 3), (⟨"Lanternserver", "servedMany", "()I"⟩, 17), (⟨"Lanternserver", "isServedNaively", "(I)Z"⟩, 17), (⟨"Lanternserver", "servedNumber", "(II)I"⟩, 17), (⟨"Lanternserver", "hasConnection", "(I)Z"⟩, 17), (⟨"Lanternserver$Reader", "feedBody", "(I)I"⟩, 19), (⟨"Lanternserver$Reader", "feedSize", "(I)I"⟩, 19), (⟨"Lanternserver$Reader", "expect", "(III)I"⟩, 19), (⟨"Lanternserver$Reader", "wrongInHead", "(I)I"⟩, 19), (⟨"Lanternserver$Reader", "canStand", "(I)Z"⟩, 19), (⟨"Lanternserver$Reader", "stepOn", "(I)V"⟩, 19), (⟨"Lanternserver$Reader", "methodIn", "()I"⟩, 19), (⟨"Lanternserver$Reader", "judge", "()I"⟩, 19), (⟨"Lanternserver$Reader", "noteVersion", "()V"⟩, 19)]
theorem lw_r1 : ∀ q ∈ lw_privs_1, lw_okq q := List.forall_mem_cons.mpr ⟨lw_p0, List.forall_mem_cons.mpr ⟨lw_p1, List.forall_mem_cons.mpr ⟨lw_p2, List.forall_mem_cons.mpr ⟨lw_p3, List.forall_mem_cons.mpr ⟨lw_p4, List.forall_mem_cons.mpr ⟨lw_p5, List.forall_mem_cons.mpr ⟨lw_p6, List.forall_mem_cons.mpr ⟨lw_p7, List.forall_mem_cons.mpr ⟨lw_p8, List.forall_mem_cons.mpr ⟨lw_p9, List.forall_mem_cons.mpr ⟨lw_p10, List.forall_mem_cons.mpr ⟨lw_p11, List.forall_mem_cons.mpr ⟨lw_p12, List.forall_mem_cons.mpr ⟨lw_p13, List.forall_mem_cons.mpr ⟨lw_p14, List.forall_mem_cons.mpr ⟨lw_p15, fun _ h => absurd h List.not_mem_nil⟩⟩⟩⟩⟩⟩⟩⟩⟩⟩⟩⟩⟩⟩⟩⟩
theorem lw_p16 : lw_okq (⟨"Lanternserver$Reader", "noteField", "()V"⟩, 19) := ⟨⟨by decide +kernel, by decide +kernel⟩, List.mem_of_getElem? (i := 374) (by decide +kernel), List.mem_of_getElem? (i := 821) (by decide +kernel), List.mem_of_getElem? (i := 822) (by decide +kernel)⟩
theorem lw_p17 : lw_okq (⟨"Lanternserver$Reader", "noteLength", "(I)V"⟩, 19) := ⟨⟨by decide +kernel, by decide +kernel⟩, List.mem_of_getElem? (i := 374) (by decide +kernel), List.mem_of_getElem? (i := 836) (by decide +kernel), List.mem_of_getElem? (i := 837) (by decide +kernel)⟩
theorem lw_p18 : lw_okq (⟨"Lanternserver$Reader", "noteValue", "(LLanternserver$Row;II)V"⟩, 19) := ⟨⟨by decide +kernel, by decide +kernel⟩, List.mem_of_getElem? (i := 374) (by decide +kernel), List.mem_of_getElem? (i := 846) (by decide +kernel), List.mem_of_getElem? (i := 847) (by decide +kernel)⟩
theorem lw_p19 : lw_okq (⟨"Lanternserver$House", "showList", "()I"⟩, 11) := ⟨⟨by decide +kernel, by decide +kernel⟩, List.mem_of_getElem? (i := 326) (by decide +kernel), List.mem_of_getElem? (i := 867) (by decide +kernel), List.mem_of_getElem? (i := 868) (by decide +kernel)⟩
theorem lw_p20 : lw_okq (⟨"Lanternserver$House", "placeOf", "(LLanternserver$Row;)I"⟩, 11) := ⟨⟨by decide +kernel, by decide +kernel⟩, List.mem_of_getElem? (i := 326) (by decide +kernel), List.mem_of_getElem? (i := 873) (by decide +kernel), List.mem_of_getElem? (i := 874) (by decide +kernel)⟩
theorem lw_p21 : lw_okq (⟨"Lanternserver$House", "show", "(LLanternserver$Reader;I)I"⟩, 11) := ⟨⟨by decide +kernel, by decide +kernel⟩, List.mem_of_getElem? (i := 326) (by decide +kernel), List.mem_of_getElem? (i := 882) (by decide +kernel), List.mem_of_getElem? (i := 883) (by decide +kernel)⟩
theorem lw_p22 : lw_okq (⟨"Lanternserver$House", "isMatched", "(LLanternserver$Row;IZ)Z"⟩, 11) := ⟨⟨by decide +kernel, by decide +kernel⟩, List.mem_of_getElem? (i := 326) (by decide +kernel), List.mem_of_getElem? (i := 886) (by decide +kernel), List.mem_of_getElem? (i := 887) (by decide +kernel)⟩
theorem lw_p23 : lw_okq (⟨"Lanternserver$House", "cutRange", "(LLanternserver$Row;)I"⟩, 11) := ⟨⟨by decide +kernel, by decide +kernel⟩, List.mem_of_getElem? (i := 326) (by decide +kernel), List.mem_of_getElem? (i := 903) (by decide +kernel), List.mem_of_getElem? (i := 904) (by decide +kernel)⟩
theorem lw_p24 : lw_okq (⟨"Lanternserver$House", "replace", "(LLanternserver$Reader;I)I"⟩, 11) := ⟨⟨by decide +kernel, by decide +kernel⟩, List.mem_of_getElem? (i := 326) (by decide +kernel), List.mem_of_getElem? (i := 912) (by decide +kernel), List.mem_of_getElem? (i := 913) (by decide +kernel)⟩
theorem lw_p25 : lw_okq (⟨"Lanternserver$House", "insert", "(LLanternserver$Row;)I"⟩, 11) := ⟨⟨by decide +kernel, by decide +kernel⟩, List.mem_of_getElem? (i := 326) (by decide +kernel), List.mem_of_getElem? (i := 916) (by decide +kernel), List.mem_of_getElem? (i := 917) (by decide +kernel)⟩
theorem lw_p26 : lw_okq (⟨"Lanternserver$House", "change", "(I)V"⟩, 11) := ⟨⟨by decide +kernel, by decide +kernel⟩, List.mem_of_getElem? (i := 326) (by decide +kernel), List.mem_of_getElem? (i := 920) (by decide +kernel), List.mem_of_getElem? (i := 921) (by decide +kernel)⟩
theorem lw_p27 : lw_okq (⟨"Lanternserver$House", "append", "(LLanternserver$Reader;I)I"⟩, 11) := ⟨⟨by decide +kernel, by decide +kernel⟩, List.mem_of_getElem? (i := 326) (by decide +kernel), List.mem_of_getElem? (i := 924) (by decide +kernel), List.mem_of_getElem? (i := 925) (by decide +kernel)⟩
theorem lw_p28 : lw_okq (⟨"Lanternserver$House", "remove", "(I)V"⟩, 11) := ⟨⟨by decide +kernel, by decide +kernel⟩, List.mem_of_getElem? (i := 326) (by decide +kernel), List.mem_of_getElem? (i := 928) (by decide +kernel), List.mem_of_getElem? (i := 929) (by decide +kernel)⟩
theorem lw_p29 : lw_okq (⟨"Lanternserver$House", "writeRange", "(ILLanternserver$Row;)V"⟩, 11) := ⟨⟨by decide +kernel, by decide +kernel⟩, List.mem_of_getElem? (i := 326) (by decide +kernel), List.mem_of_getElem? (i := 969) (by decide +kernel), List.mem_of_getElem? (i := 970) (by decide +kernel)⟩
theorem lw_p30 : lw_okq (⟨"Lanternserver", "hasReadOtherwise", "(LLanternserver$Connection;)Z"⟩, 17) := ⟨⟨by decide +kernel, by decide +kernel⟩, List.mem_of_getElem? (i := 46) (by decide +kernel), List.mem_of_getElem? (i := 1002) (by decide +kernel), List.mem_of_getElem? (i := 1003) (by decide +kernel)⟩
theorem lw_p31 : lw_okq (⟨"java/lang/Throwable", "fillInStackTrace", "(I)Ljava/lang/Throwable;"⟩, 6) := ⟨⟨by decide +kernel, by decide +kernel⟩, List.mem_of_getElem? (i := 1073) (by decide +kernel), List.mem_of_getElem? (i := 1071) (by decide +kernel), List.mem_of_getElem? (i := 1072) (by decide +kernel)⟩
def lw_privs_2 : List (MethodName × Nat) := [(⟨"Lanternserver$Reader", "noteField", "()V"⟩, 19), (⟨"Lanternserver$Reader", "noteLength", "(I)V"⟩, 19), (⟨"Lanternserver$Reader", "noteValue", "(LLanternserver$Row;II)V"⟩, 19), (⟨"Lanternserver$House", "showList", "()I"⟩, 11), (⟨"Lanternserver$House", "placeOf", "(LLanternserver$Row;)I"⟩, 11), (⟨"Lanternserver$House", "show", "(LLanternserver$Reader;I)I"⟩, 11), (⟨"Lanternserver$House", "isMatched", "(LLanternserver$Row;IZ)Z"⟩, 11), (⟨"Lanternserver$House", "cutRange", "(LLanternserver$Row;)I"⟩, 11), (⟨"Lanternserver$House", "replace", "(LLanternserver$Reader;I)I"⟩, 11), (⟨"Lanternserver$House", "insert", "(LLanternserver$Row;)I"⟩, 11), (⟨"Lanternserver$House", "change", "(I)V"⟩, 11), (⟨"Lanternserver$House", "append", "(LLanternserver$Reader;I)I"⟩, 11), (⟨"Lanternserver$House", "remove", "(I)V"⟩, 11), (⟨"Lanternserver$House", "writeRange", "(ILLanternserver$Row;)V"⟩, 11), (⟨"Lanternserver", "hasReadOtherwise", "(LLanternserver$Connection;)Z"⟩, 17), (⟨"java/lang/Throwable", "fillInStackTrace", "(I)Ljava/lang/Throwable;"⟩, 6)]
theorem lw_r2 : ∀ q ∈ lw_privs_2, lw_okq q := List.forall_mem_cons.mpr ⟨lw_p16, List.forall_mem_cons.mpr ⟨lw_p17, List.forall_mem_cons.mpr ⟨lw_p18, List.forall_mem_cons.mpr ⟨lw_p19, List.forall_mem_cons.mpr ⟨lw_p20, List.forall_mem_cons.mpr ⟨lw_p21, List.forall_mem_cons.mpr ⟨lw_p22, List.forall_mem_cons.mpr ⟨lw_p23, List.forall_mem_cons.mpr ⟨lw_p24, List.forall_mem_cons.mpr ⟨lw_p25, List.forall_mem_cons.mpr ⟨lw_p26, List.forall_mem_cons.mpr ⟨lw_p27, List.forall_mem_cons.mpr ⟨lw_p28, List.forall_mem_cons.mpr ⟨lw_p29, List.forall_mem_cons.mpr ⟨lw_p30, List.forall_mem_cons.mpr ⟨lw_p31, fun _ h => absurd h List.not_mem_nil⟩⟩⟩⟩⟩⟩⟩⟩⟩⟩⟩⟩⟩⟩⟩⟩
theorem lw_p32 : lw_okq (⟨"Lanternserver", "typeNumber", "(J)V"⟩, 17) := ⟨⟨by decide +kernel, by decide +kernel⟩, List.mem_of_getElem? (i := 46) (by decide +kernel), List.mem_of_getElem? (i := 1102) (by decide +kernel), List.mem_of_getElem? (i := 1103) (by decide +kernel)⟩
theorem lw_p33 : lw_okq (⟨"Lanternserver", "hasHost", "(I)Z"⟩, 17) := ⟨⟨by decide +kernel, by decide +kernel⟩, List.mem_of_getElem? (i := 46) (by decide +kernel), List.mem_of_getElem? (i := 1191) (by decide +kernel), List.mem_of_getElem? (i := 1192) (by decide +kernel)⟩
theorem lw_p34 : lw_okq (⟨"Lanternserver", "carryOne", "(I)I"⟩, 17) := ⟨⟨by decide +kernel, by decide +kernel⟩, List.mem_of_getElem? (i := 46) (by decide +kernel), List.mem_of_getElem? (i := 1232) (by decide +kernel), List.mem_of_getElem? (i := 1233) (by decide +kernel)⟩
theorem lw_p35 : lw_okq (⟨"Lanternserver$Host", "takeMessage", "(LLanternserver$Row;I)V"⟩, 16) := ⟨⟨by decide +kernel, by decide +kernel⟩, List.mem_of_getElem? (i := 447) (by decide +kernel), List.mem_of_getElem? (i := 1260) (by decide +kernel), List.mem_of_getElem? (i := 1261) (by decide +kernel)⟩
theorem lw_p36 : lw_okq (⟨"Lanternserver$Host", "learn", "(IIJI)V"⟩, 16) := ⟨⟨by decide +kernel, by decide +kernel⟩, List.mem_of_getElem? (i := 447) (by decide +kernel), List.mem_of_getElem? (i := 1267) (by decide +kernel), List.mem_of_getElem? (i := 1268) (by decide +kernel)⟩
theorem lw_p37 : lw_okq (⟨"Lanternserver$Host", "isDatagram", "(LLanternserver$Row;)Z"⟩, 16) := ⟨⟨by decide +kernel, by decide +kernel⟩, List.mem_of_getElem? (i := 447) (by decide +kernel), List.mem_of_getElem? (i := 1280) (by decide +kernel), List.mem_of_getElem? (i := 1281) (by decide +kernel)⟩
theorem lw_p38 : lw_okq (⟨"Lanternserver$Host", "takeDatagram", "(LLanternserver$Row;ILLanternserver$Datagram;)Z"⟩, 16) := ⟨⟨by decide +kernel, by decide +kernel⟩, List.mem_of_getElem? (i := 447) (by decide +kernel), List.mem_of_getElem? (i := 1286) (by decide +kernel), List.mem_of_getElem? (i := 1287) (by decide +kernel)⟩
theorem lw_p39 : lw_okq (⟨"Lanternserver$Host", "keptPlace", "(LLanternserver$Datagram;)I"⟩, 16) := ⟨⟨by decide +kernel, by decide +kernel⟩, List.mem_of_getElem? (i := 447) (by decide +kernel), List.mem_of_getElem? (i := 1296) (by decide +kernel), List.mem_of_getElem? (i := 1297) (by decide +kernel)⟩
theorem lw_p40 : lw_okq (⟨"Lanternserver$Host", "dropKept", "(I)V"⟩, 16) := ⟨⟨by decide +kernel, by decide +kernel⟩, List.mem_of_getElem? (i := 447) (by decide +kernel), List.mem_of_getElem? (i := 1300) (by decide +kernel), List.mem_of_getElem? (i := 1301) (by decide +kernel)⟩
theorem lw_p41 : lw_okq (⟨"Lanternserver$Host", "sendPieces", "(LLanternserver$Datagram;JLLanternserver$Wire;)V"⟩, 16) := ⟨⟨by decide +kernel, by decide +kernel⟩, List.mem_of_getElem? (i := 447) (by decide +kernel), List.mem_of_getElem? (i := 1564) (by decide +kernel), List.mem_of_getElem? (i := 1565) (by decide +kernel)⟩
theorem lw_p42 : lw_okq (⟨"Lanternserver$Host", "sendPart", "(LLanternserver$Wire;LLanternserver$Datagram;JII)V"⟩, 16) := ⟨⟨by decide +kernel, by decide +kernel⟩, List.mem_of_getElem? (i := 447) (by decide +kernel), List.mem_of_getElem? (i := 1568) (by decide +kernel), List.mem_of_getElem? (i := 1569) (by decide +kernel)⟩
theorem lw_p43 : lw_okq (⟨"Lanternserver$Host", "dropWaiting", "(I)V"⟩, 16) := ⟨⟨by decide +kernel, by decide +kernel⟩, List.mem_of_getElem? (i := 447) (by decide +kernel), List.mem_of_getElem? (i := 1593) (by decide +kernel), List.mem_of_getElem? (i := 1594) (by decide +kernel)⟩
theorem lw_p44 : lw_okq (⟨"Lanternserver$Host", "sendMessage", "(LLanternserver$Wire;IJJI)V"⟩, 16) := ⟨⟨by decide +kernel, by decide +kernel⟩, List.mem_of_getElem? (i := 447) (by decide +kernel), List.mem_of_getElem? (i := 1597) (by decide +kernel), List.mem_of_getElem? (i := 1598) (by decide +kernel)⟩
theorem lw_p45 : lw_okq (⟨"Lanternserver", "takeEcho", "(I)V"⟩, 17) := ⟨⟨by decide +kernel, by decide +kernel⟩, List.mem_of_getElem? (i := 46) (by decide +kernel), List.mem_of_getElem? (i := 1601) (by decide +kernel), List.mem_of_getElem? (i := 1602) (by decide +kernel)⟩
theorem lw_p46 : lw_okq (⟨"Lanternserver", "takeNames", "(I)V"⟩, 17) := ⟨⟨by decide +kernel, by decide +kernel⟩, List.mem_of_getElem? (i := 46) (by decide +kernel), List.mem_of_getElem? (i := 1613) (by decide +kernel), List.mem_of_getElem? (i := 1614) (by decide +kernel)⟩
theorem lw_p47 : lw_okq (⟨"Lanternserver", "answerName", "()V"⟩, 17) := ⟨⟨by decide +kernel, by decide +kernel⟩, List.mem_of_getElem? (i := 46) (by decide +kernel), List.mem_of_getElem? (i := 1622) (by decide +kernel), List.mem_of_getElem? (i := 1623) (by decide +kernel)⟩
def lw_privs_3 : List (MethodName × Nat) := [(⟨"Lanternserver", "typeNumber", "(J)V"⟩, 17), (⟨"Lanternserver", "hasHost", "(I)Z"⟩, 17), (⟨"Lanternserver", "carryOne", "(I)I"⟩, 17), (⟨"Lanternserver$Host", "takeMessage", "(LLanternserver$Row;I)V"⟩, 16), (⟨"Lanternserver$Host", "learn", "(IIJI)V"⟩, 16), (⟨"Lanternserver$Host", "isDatagram", "(LLanternserver$Row;)Z"⟩, 16), (⟨"Lanternserver$Host", "takeDatagram", "(LLanternserver$Row;ILLanternserver$Datagram;)Z"⟩, 16), (⟨"Lanternserver$Host", "keptPlace", "(LLanternserver$Datagram;)I"⟩, 16), (⟨"Lanternserver$Host", "dropKept", "(I)V"⟩, 16), (⟨"Lanternserver$Host", "sendPieces", "(LLanternserver$Datagram;JLLanternserver$Wire;)V"⟩, 16), (⟨"Lanternserver$Host", "sendPart", "(LLanternserver$Wire;LLanternserver$Datagram;JII)V"⟩, 16), (⟨"Lanternserver$Host", "dropWaiting", "(I)V"⟩, 16), (⟨"Lanternserver$Host", "sendMessage", "(LLanternserver$Wire;IJJI)V"⟩, 16), (⟨"Lanternserver", "takeEcho", "(I)V"⟩, 17), (⟨"Lanternserver", "takeNames", "(I)V"⟩, 17), (⟨"Lanternserver", "answerName", "()V"⟩, 17)]
theorem lw_r3 : ∀ q ∈ lw_privs_3, lw_okq q := List.forall_mem_cons.mpr ⟨lw_p32, List.forall_mem_cons.mpr ⟨lw_p33, List.forall_mem_cons.mpr ⟨lw_p34, List.forall_mem_cons.mpr ⟨lw_p35, List.forall_mem_cons.mpr ⟨lw_p36, List.forall_mem_cons.mpr ⟨lw_p37, List.forall_mem_cons.mpr ⟨lw_p38, List.forall_mem_cons.mpr ⟨lw_p39, List.forall_mem_cons.mpr ⟨lw_p40, List.forall_mem_cons.mpr ⟨lw_p41, List.forall_mem_cons.mpr ⟨lw_p42, List.forall_mem_cons.mpr ⟨lw_p43, List.forall_mem_cons.mpr ⟨lw_p44, List.forall_mem_cons.mpr ⟨lw_p45, List.forall_mem_cons.mpr ⟨lw_p46, List.forall_mem_cons.mpr ⟨lw_p47, fun _ h => absurd h List.not_mem_nil⟩⟩⟩⟩⟩⟩⟩⟩⟩⟩⟩⟩⟩⟩⟩⟩
theorem lw_p48 : lw_okq (⟨"Lanternserver", "ownerOf", "(LLanternserver$Row;II)I"⟩, 17) := ⟨⟨by decide +kernel, by decide +kernel⟩, List.mem_of_getElem? (i := 46) (by decide +kernel), List.mem_of_getElem? (i := 1634) (by decide +kernel), List.mem_of_getElem? (i := 1635) (by decide +kernel)⟩
theorem lw_p49 : lw_okq (⟨"Lanternserver", "takeAnswer", "(I)V"⟩, 17) := ⟨⟨by decide +kernel, by decide +kernel⟩, List.mem_of_getElem? (i := 46) (by decide +kernel), List.mem_of_getElem? (i := 1650) (by decide +kernel), List.mem_of_getElem? (i := 1651) (by decide +kernel)⟩
theorem lw_p50 : lw_okq (⟨"Lanternserver", "takeSegment", "(I)V"⟩, 17) := ⟨⟨by decide +kernel, by decide +kernel⟩, List.mem_of_getElem? (i := 46) (by decide +kernel), List.mem_of_getElem? (i := 1654) (by decide +kernel), List.mem_of_getElem? (i := 1655) (by decide +kernel)⟩
theorem lw_p51 : lw_okq (⟨"Lanternserver", "connectionOf", "(I)LLanternserver$Connection;"⟩, 17) := ⟨⟨by decide +kernel, by decide +kernel⟩, List.mem_of_getElem? (i := 46) (by decide +kernel), List.mem_of_getElem? (i := 1675) (by decide +kernel), List.mem_of_getElem? (i := 1676) (by decide +kernel)⟩
theorem lw_p52 : lw_okq (⟨"Lanternserver", "isBeginning", "(I)Z"⟩, 17) := ⟨⟨by decide +kernel, by decide +kernel⟩, List.mem_of_getElem? (i := 46) (by decide +kernel), List.mem_of_getElem? (i := 1679) (by decide +kernel), List.mem_of_getElem? (i := 1680) (by decide +kernel)⟩
theorem lw_p53 : lw_okq (⟨"Lanternserver", "openMany", "(Z)I"⟩, 17) := ⟨⟨by decide +kernel, by decide +kernel⟩, List.mem_of_getElem? (i := 46) (by decide +kernel), List.mem_of_getElem? (i := 1684) (by decide +kernel), List.mem_of_getElem? (i := 1685) (by decide +kernel)⟩
theorem lw_p54 : lw_okq (⟨"Lanternserver", "newServers", "()LLanternserver$Connection;"⟩, 17) := ⟨⟨by decide +kernel, by decide +kernel⟩, List.mem_of_getElem? (i := 46) (by decide +kernel), List.mem_of_getElem? (i := 1692) (by decide +kernel), List.mem_of_getElem? (i := 1693) (by decide +kernel)⟩
theorem lw_p55 : lw_okq (⟨"Lanternserver$Connection", "sendNew", "(II)V"⟩, 19) := ⟨⟨by decide +kernel, by decide +kernel⟩, List.mem_of_getElem? (i := 1695) (by decide +kernel), List.mem_of_getElem? (i := 1913) (by decide +kernel), List.mem_of_getElem? (i := 1914) (by decide +kernel)⟩
theorem lw_p56 : lw_okq (⟨"Lanternserver$Connection", "emit", "(IIII)V"⟩, 19) := ⟨⟨by decide +kernel, by decide +kernel⟩, List.mem_of_getElem? (i := 1695) (by decide +kernel), List.mem_of_getElem? (i := 1921) (by decide +kernel), List.mem_of_getElem? (i := 1922) (by decide +kernel)⟩
theorem lw_p57 : lw_okq (⟨"Lanternserver$Connection", "arriveAsked", "(LLanternserver$Segment;)Z"⟩, 19) := ⟨⟨by decide +kernel, by decide +kernel⟩, List.mem_of_getElem? (i := 1695) (by decide +kernel), List.mem_of_getElem? (i := 1955) (by decide +kernel), List.mem_of_getElem? (i := 1956) (by decide +kernel)⟩
theorem lw_p58 : lw_okq (⟨"Lanternserver$Connection", "end", "(I)V"⟩, 19) := ⟨⟨by decide +kernel, by decide +kernel⟩, List.mem_of_getElem? (i := 1695) (by decide +kernel), List.mem_of_getElem? (i := 1961) (by decide +kernel), List.mem_of_getElem? (i := 1962) (by decide +kernel)⟩
theorem lw_p59 : lw_okq (⟨"Lanternserver$Connection", "establish", "(LLanternserver$Segment;)V"⟩, 19) := ⟨⟨by decide +kernel, by decide +kernel⟩, List.mem_of_getElem? (i := 1695) (by decide +kernel), List.mem_of_getElem? (i := 1965) (by decide +kernel), List.mem_of_getElem? (i := 1966) (by decide +kernel)⟩
theorem lw_p60 : lw_okq (⟨"Lanternserver$Connection", "sendAgain", "()V"⟩, 19) := ⟨⟨by decide +kernel, by decide +kernel⟩, List.mem_of_getElem? (i := 1695) (by decide +kernel), List.mem_of_getElem? (i := 1969) (by decide +kernel), List.mem_of_getElem? (i := 1970) (by decide +kernel)⟩
theorem lw_p61 : lw_okq (⟨"Lanternserver$Connection", "flagsOf", "(I)I"⟩, 19) := ⟨⟨by decide +kernel, by decide +kernel⟩, List.mem_of_getElem? (i := 1695) (by decide +kernel), List.mem_of_getElem? (i := 1978) (by decide +kernel), List.mem_of_getElem? (i := 1979) (by decide +kernel)⟩
theorem lw_p62 : lw_okq (⟨"Lanternserver$Connection", "isThirdDouble", "(LLanternserver$Segment;)Z"⟩, 19) := ⟨⟨by decide +kernel, by decide +kernel⟩, List.mem_of_getElem? (i := 1695) (by decide +kernel), List.mem_of_getElem? (i := 1985) (by decide +kernel), List.mem_of_getElem? (i := 1986) (by decide +kernel)⟩
theorem lw_p63 : lw_okq (⟨"Lanternserver$Sender", "measure", "(I)V"⟩, 20) := ⟨⟨by decide +kernel, by decide +kernel⟩, List.mem_of_getElem? (i := 1741) (by decide +kernel), List.mem_of_getElem? (i := 1995) (by decide +kernel), List.mem_of_getElem? (i := 1996) (by decide +kernel)⟩
def lw_privs_4 : List (MethodName × Nat) := [(⟨"Lanternserver", "ownerOf", "(LLanternserver$Row;II)I"⟩, 17), (⟨"Lanternserver", "takeAnswer", "(I)V"⟩, 17), (⟨"Lanternserver", "takeSegment", "(I)V"⟩, 17), (⟨"Lanternserver", "connectionOf", "(I)LLanternserver$Connection;"⟩, 17), (⟨"Lanternserver", "isBeginning", "(I)Z"⟩, 17), (⟨"Lanternserver", "openMany", "(Z)I"⟩, 17), (⟨"Lanternserver", "newServers", "()LLanternserver$Connection;"⟩, 17), (⟨"Lanternserver$Connection", "sendNew", "(II)V"⟩, 19), (⟨"Lanternserver$Connection", "emit", "(IIII)V"⟩, 19), (⟨"Lanternserver$Connection", "arriveAsked", "(LLanternserver$Segment;)Z"⟩, 19), (⟨"Lanternserver$Connection", "end", "(I)V"⟩, 19), (⟨"Lanternserver$Connection", "establish", "(LLanternserver$Segment;)V"⟩, 19), (⟨"Lanternserver$Connection", "sendAgain", "()V"⟩, 19), (⟨"Lanternserver$Connection", "flagsOf", "(I)I"⟩, 19), (⟨"Lanternserver$Connection", "isThirdDouble", "(LLanternserver$Segment;)Z"⟩, 19), (⟨"Lanternserver$Sender", "measure", "(I)V"⟩, 20)]
theorem lw_r4 : ∀ q ∈ lw_privs_4, lw_okq q := List.forall_mem_cons.mpr ⟨lw_p48, List.forall_mem_cons.mpr ⟨lw_p49, List.forall_mem_cons.mpr ⟨lw_p50, List.forall_mem_cons.mpr ⟨lw_p51, List.forall_mem_cons.mpr ⟨lw_p52, List.forall_mem_cons.mpr ⟨lw_p53, List.forall_mem_cons.mpr ⟨lw_p54, List.forall_mem_cons.mpr ⟨lw_p55, List.forall_mem_cons.mpr ⟨lw_p56, List.forall_mem_cons.mpr ⟨lw_p57, List.forall_mem_cons.mpr ⟨lw_p58, List.forall_mem_cons.mpr ⟨lw_p59, List.forall_mem_cons.mpr ⟨lw_p60, List.forall_mem_cons.mpr ⟨lw_p61, List.forall_mem_cons.mpr ⟨lw_p62, List.forall_mem_cons.mpr ⟨lw_p63, fun _ h => absurd h List.not_mem_nil⟩⟩⟩⟩⟩⟩⟩⟩⟩⟩⟩⟩⟩⟩⟩⟩
theorem lw_p64 : lw_okq (⟨"Lanternserver$Connection", "isEndedByAcknowledgement", "()Z"⟩, 19) := ⟨⟨by decide +kernel, by decide +kernel⟩, List.mem_of_getElem? (i := 1695) (by decide +kernel), List.mem_of_getElem? (i := 2016) (by decide +kernel), List.mem_of_getElem? (i := 2017) (by decide +kernel)⟩
theorem lw_p65 : lw_okq (⟨"Lanternserver$Connection", "waitOut", "()V"⟩, 19) := ⟨⟨by decide +kernel, by decide +kernel⟩, List.mem_of_getElem? (i := 1695) (by decide +kernel), List.mem_of_getElem? (i := 2020) (by decide +kernel), List.mem_of_getElem? (i := 2021) (by decide +kernel)⟩
theorem lw_p66 : lw_okq (⟨"Lanternserver$Connection", "takeIn", "(LLanternserver$Segment;)V"⟩, 19) := ⟨⟨by decide +kernel, by decide +kernel⟩, List.mem_of_getElem? (i := 1695) (by decide +kernel), List.mem_of_getElem? (i := 2024) (by decide +kernel), List.mem_of_getElem? (i := 2025) (by decide +kernel)⟩
theorem lw_p67 : lw_okq (⟨"Lanternserver$Receiver", "joinPieces", "()V"⟩, 8) := ⟨⟨by decide +kernel, by decide +kernel⟩, List.mem_of_getElem? (i := 1701) (by decide +kernel), List.mem_of_getElem? (i := 2035) (by decide +kernel), List.mem_of_getElem? (i := 2036) (by decide +kernel)⟩
theorem lw_p68 : lw_okq (⟨"Lanternserver$Receiver", "firstPiece", "()I"⟩, 8) := ⟨⟨by decide +kernel, by decide +kernel⟩, List.mem_of_getElem? (i := 1701) (by decide +kernel), List.mem_of_getElem? (i := 2039) (by decide +kernel), List.mem_of_getElem? (i := 2040) (by decide +kernel)⟩
theorem lw_p69 : lw_okq (⟨"Lanternserver", "serversOf", "(LLanternserver$Connection;I)I"⟩, 17) := ⟨⟨by decide +kernel, by decide +kernel⟩, List.mem_of_getElem? (i := 46) (by decide +kernel), List.mem_of_getElem? (i := 2045) (by decide +kernel), List.mem_of_getElem? (i := 2046) (by decide +kernel)⟩
theorem lw_p70 : lw_okq (⟨"Lanternserver", "serve", "(LLanternserver$Connection;)V"⟩, 17) := ⟨⟨by decide +kernel, by decide +kernel⟩, List.mem_of_getElem? (i := 46) (by decide +kernel), List.mem_of_getElem? (i := 2049) (by decide +kernel), List.mem_of_getElem? (i := 2050) (by decide +kernel)⟩
theorem lw_p71 : lw_okq (⟨"Lanternserver", "noteServed", "(LLanternserver$Connection;II)V"⟩, 17) := ⟨⟨by decide +kernel, by decide +kernel⟩, List.mem_of_getElem? (i := 46) (by decide +kernel), List.mem_of_getElem? (i := 2075) (by decide +kernel), List.mem_of_getElem? (i := 2076) (by decide +kernel)⟩
theorem lw_p72 : lw_okq (⟨"Lanternserver$Connection", "isSending", "()Z"⟩, 19) := ⟨⟨by decide +kernel, by decide +kernel⟩, List.mem_of_getElem? (i := 1695) (by decide +kernel), List.mem_of_getElem? (i := 2083) (by decide +kernel), List.mem_of_getElem? (i := 2084) (by decide +kernel)⟩
theorem lw_p73 : lw_okq (⟨"Lanternserver$Connection", "noteProbing", "()V"⟩, 19) := ⟨⟨by decide +kernel, by decide +kernel⟩, List.mem_of_getElem? (i := 1695) (by decide +kernel), List.mem_of_getElem? (i := 2092) (by decide +kernel), List.mem_of_getElem? (i := 2093) (by decide +kernel)⟩
theorem lw_p74 : lw_okq (⟨"Lanternserver", "postAll", "()V"⟩, 17) := ⟨⟨by decide +kernel, by decide +kernel⟩, List.mem_of_getElem? (i := 46) (by decide +kernel), List.mem_of_getElem? (i := 2096) (by decide +kernel), List.mem_of_getElem? (i := 2097) (by decide +kernel)⟩
theorem lw_p75 : lw_okq (⟨"Lanternserver$Host", "ask", "(ILLanternserver$Wire;)V"⟩, 16) := ⟨⟨by decide +kernel, by decide +kernel⟩, List.mem_of_getElem? (i := 447) (by decide +kernel), List.mem_of_getElem? (i := 2105) (by decide +kernel), List.mem_of_getElem? (i := 2106) (by decide +kernel)⟩
theorem lw_p76 : lw_okq (⟨"Lanternserver", "tick", "()V"⟩, 17) := ⟨⟨by decide +kernel, by decide +kernel⟩, List.mem_of_getElem? (i := 46) (by decide +kernel), List.mem_of_getElem? (i := 2176) (by decide +kernel), List.mem_of_getElem? (i := 2177) (by decide +kernel)⟩
theorem lw_p77 : lw_okq (⟨"Lanternserver$Connection", "runOut", "()V"⟩, 19) := ⟨⟨by decide +kernel, by decide +kernel⟩, List.mem_of_getElem? (i := 1695) (by decide +kernel), List.mem_of_getElem? (i := 2192) (by decide +kernel), List.mem_of_getElem? (i := 2193) (by decide +kernel)⟩
theorem lw_p78 : lw_okq (⟨"Lanternserver", "isTimerRunning", "()Z"⟩, 17) := ⟨⟨by decide +kernel, by decide +kernel⟩, List.mem_of_getElem? (i := 46) (by decide +kernel), List.mem_of_getElem? (i := 2209) (by decide +kernel), List.mem_of_getElem? (i := 2210) (by decide +kernel)⟩
theorem lw_p79 : lw_okq (⟨"Lanternserver", "readName", "()I"⟩, 17) := ⟨⟨by decide +kernel, by decide +kernel⟩, List.mem_of_getElem? (i := 46) (by decide +kernel), List.mem_of_getElem? (i := 2258) (by decide +kernel), List.mem_of_getElem? (i := 2259) (by decide +kernel)⟩
def lw_privs_5 : List (MethodName × Nat) := [(⟨"Lanternserver$Connection", "isEndedByAcknowledgement", "()Z"⟩, 19), (⟨"Lanternserver$Connection", "waitOut", "()V"⟩, 19), (⟨"Lanternserver$Connection", "takeIn", "(LLanternserver$Segment;)V"⟩, 19), (⟨"Lanternserver$Receiver", "joinPieces", "()V"⟩, 8), (⟨"Lanternserver$Receiver", "firstPiece", "()I"⟩, 8), (⟨"Lanternserver", "serversOf", "(LLanternserver$Connection;I)I"⟩, 17), (⟨"Lanternserver", "serve", "(LLanternserver$Connection;)V"⟩, 17), (⟨"Lanternserver", "noteServed", "(LLanternserver$Connection;II)V"⟩, 17), (⟨"Lanternserver$Connection", "isSending", "()Z"⟩, 19), (⟨"Lanternserver$Connection", "noteProbing", "()V"⟩, 19), (⟨"Lanternserver", "postAll", "()V"⟩, 17), (⟨"Lanternserver$Host", "ask", "(ILLanternserver$Wire;)V"⟩, 16), (⟨"Lanternserver", "tick", "()V"⟩, 17), (⟨"Lanternserver$Connection", "runOut", "()V"⟩, 19), (⟨"Lanternserver", "isTimerRunning", "()Z"⟩, 17), (⟨"Lanternserver", "readName", "()I"⟩, 17)]
theorem lw_r5 : ∀ q ∈ lw_privs_5, lw_okq q := List.forall_mem_cons.mpr ⟨lw_p64, List.forall_mem_cons.mpr ⟨lw_p65, List.forall_mem_cons.mpr ⟨lw_p66, List.forall_mem_cons.mpr ⟨lw_p67, List.forall_mem_cons.mpr ⟨lw_p68, List.forall_mem_cons.mpr ⟨lw_p69, List.forall_mem_cons.mpr ⟨lw_p70, List.forall_mem_cons.mpr ⟨lw_p71, List.forall_mem_cons.mpr ⟨lw_p72, List.forall_mem_cons.mpr ⟨lw_p73, List.forall_mem_cons.mpr ⟨lw_p74, List.forall_mem_cons.mpr ⟨lw_p75, List.forall_mem_cons.mpr ⟨lw_p76, List.forall_mem_cons.mpr ⟨lw_p77, List.forall_mem_cons.mpr ⟨lw_p78, List.forall_mem_cons.mpr ⟨lw_p79, fun _ h => absurd h List.not_mem_nil⟩⟩⟩⟩⟩⟩⟩⟩⟩⟩⟩⟩⟩⟩⟩⟩
theorem lw_p80 : lw_okq (⟨"Lanternserver", "servedWell", "()I"⟩, 17) := ⟨⟨by decide +kernel, by decide +kernel⟩, List.mem_of_getElem? (i := 46) (by decide +kernel), List.mem_of_getElem? (i := 2401) (by decide +kernel), List.mem_of_getElem? (i := 2402) (by decide +kernel)⟩
theorem lw_p81 : lw_okq (⟨"Lanternserver", "answeredEchoes", "()I"⟩, 17) := ⟨⟨by decide +kernel, by decide +kernel⟩, List.mem_of_getElem? (i := 46) (by decide +kernel), List.mem_of_getElem? (i := 2405) (by decide +kernel), List.mem_of_getElem? (i := 2406) (by decide +kernel)⟩
theorem lw_p82 : lw_okq (⟨"LanternserverModel", "fine", "(Z)Z"⟩, 96) := ⟨⟨by decide +kernel, by decide +kernel⟩, List.mem_of_getElem? (i := 2410) (by decide +kernel), List.mem_of_getElem? (i := 2796) (by decide +kernel), List.mem_of_getElem? (i := 2797) (by decide +kernel)⟩
theorem lw_p83 : lw_okq (⟨"LanternserverModel", "puts", "(J)V"⟩, 96) := ⟨⟨by decide +kernel, by decide +kernel⟩, List.mem_of_getElem? (i := 2410) (by decide +kernel), List.mem_of_getElem? (i := 2800) (by decide +kernel), List.mem_of_getElem? (i := 2801) (by decide +kernel)⟩
theorem lw_p84 : lw_okq (⟨"LanternserverModel", "fine", "(ZZ)Z"⟩, 96) := ⟨⟨by decide +kernel, by decide +kernel⟩, List.mem_of_getElem? (i := 2410) (by decide +kernel), List.mem_of_getElem? (i := 2812) (by decide +kernel), List.mem_of_getElem? (i := 2813) (by decide +kernel)⟩
theorem lw_p85 : lw_okq (⟨"LanternserverModel", "isHost", "(I)Z"⟩, 96) := ⟨⟨by decide +kernel, by decide +kernel⟩, List.mem_of_getElem? (i := 2410) (by decide +kernel), List.mem_of_getElem? (i := 2859) (by decide +kernel), List.mem_of_getElem? (i := 2860) (by decide +kernel)⟩
theorem lw_p86 : lw_okq (⟨"LanternserverModel", "delivers", "(I)I"⟩, 96) := ⟨⟨by decide +kernel, by decide +kernel⟩, List.mem_of_getElem? (i := 2410) (by decide +kernel), List.mem_of_getElem? (i := 2883) (by decide +kernel), List.mem_of_getElem? (i := 2884) (by decide +kernel)⟩
theorem lw_p87 : lw_okq (⟨"LanternserverModel", "takenOff", "(I)LLanternserverModel$Frame;"⟩, 96) := ⟨⟨by decide +kernel, by decide +kernel⟩, List.mem_of_getElem? (i := 2410) (by decide +kernel), List.mem_of_getElem? (i := 2887) (by decide +kernel), List.mem_of_getElem? (i := 2888) (by decide +kernel)⟩
theorem lw_p88 : lw_okq (⟨"LanternserverModel", "takes", "(I[I)V"⟩, 96) := ⟨⟨by decide +kernel, by decide +kernel⟩, List.mem_of_getElem? (i := 2410) (by decide +kernel), List.mem_of_getElem? (i := 2899) (by decide +kernel), List.mem_of_getElem? (i := 2900) (by decide +kernel)⟩
theorem lw_p89 : lw_okq (⟨"LanternserverModel", "takesMessage", "(I[I)Z"⟩, 96) := ⟨⟨by decide +kernel, by decide +kernel⟩, List.mem_of_getElem? (i := 2410) (by decide +kernel), List.mem_of_getElem? (i := 2906) (by decide +kernel), List.mem_of_getElem? (i := 2907) (by decide +kernel)⟩
theorem lw_p90 : lw_okq (⟨"LanternserverModel", "keeps", "(LLanternserverModel$Host;LLanternserverModel$Known;IJ)V"⟩, 96) := ⟨⟨by decide +kernel, by decide +kernel⟩, List.mem_of_getElem? (i := 2410) (by decide +kernel), List.mem_of_getElem? (i := 2911) (by decide +kernel), List.mem_of_getElem? (i := 2912) (by decide +kernel)⟩
theorem lw_p91 : lw_okq (⟨"LanternserverModel", "sendsWaiting", "(IIJ)V"⟩, 96) := ⟨⟨by decide +kernel, by decide +kernel⟩, List.mem_of_getElem? (i := 2410) (by decide +kernel), List.mem_of_getElem? (i := 2931) (by decide +kernel), List.mem_of_getElem? (i := 2932) (by decide +kernel)⟩
theorem lw_p92 : lw_okq (⟨"LanternserverModel", "sendsRows", "(IJ[[I)V"⟩, 96) := ⟨⟨by decide +kernel, by decide +kernel⟩, List.mem_of_getElem? (i := 2410) (by decide +kernel), List.mem_of_getElem? (i := 2935) (by decide +kernel), List.mem_of_getElem? (i := 2936) (by decide +kernel)⟩
theorem lw_p93 : lw_okq (⟨"LanternserverModel", "frame", "(IJI[IZ)V"⟩, 96) := ⟨⟨by decide +kernel, by decide +kernel⟩, List.mem_of_getElem? (i := 2410) (by decide +kernel), List.mem_of_getElem? (i := 2939) (by decide +kernel), List.mem_of_getElem? (i := 2940) (by decide +kernel)⟩
theorem lw_p94 : lw_okq (⟨"LanternserverModel", "toWire", "(LLanternserverModel$Frame;)V"⟩, 96) := ⟨⟨by decide +kernel, by decide +kernel⟩, List.mem_of_getElem? (i := 2410) (by decide +kernel), List.mem_of_getElem? (i := 2964) (by decide +kernel), List.mem_of_getElem? (i := 2965) (by decide +kernel)⟩
theorem lw_p95 : lw_okq (⟨"LanternserverModel", "takesDatagram", "(I[I)Z"⟩, 96) := ⟨⟨by decide +kernel, by decide +kernel⟩, List.mem_of_getElem? (i := 2410) (by decide +kernel), List.mem_of_getElem? (i := 2972) (by decide +kernel), List.mem_of_getElem? (i := 2973) (by decide +kernel)⟩
def lw_privs_6 : List (MethodName × Nat) := [(⟨"Lanternserver", "servedWell", "()I"⟩, 17), (⟨"Lanternserver", "answeredEchoes", "()I"⟩, 17), (⟨"LanternserverModel", "fine", "(Z)Z"⟩, 96), (⟨"LanternserverModel", "puts", "(J)V"⟩, 96), (⟨"LanternserverModel", "fine", "(ZZ)Z"⟩, 96), (⟨"LanternserverModel", "isHost", "(I)Z"⟩, 96), (⟨"LanternserverModel", "delivers", "(I)I"⟩, 96), (⟨"LanternserverModel", "takenOff", "(I)LLanternserverModel$Frame;"⟩, 96), (⟨"LanternserverModel", "takes", "(I[I)V"⟩, 96), (⟨"LanternserverModel", "takesMessage", "(I[I)Z"⟩, 96), (⟨"LanternserverModel", "keeps", "(LLanternserverModel$Host;LLanternserverModel$Known;IJ)V"⟩, 96), (⟨"LanternserverModel", "sendsWaiting", "(IIJ)V"⟩, 96), (⟨"LanternserverModel", "sendsRows", "(IJ[[I)V"⟩, 96), (⟨"LanternserverModel", "frame", "(IJI[IZ)V"⟩, 96), (⟨"LanternserverModel", "toWire", "(LLanternserverModel$Frame;)V"⟩, 96), (⟨"LanternserverModel", "takesDatagram", "(I[I)Z"⟩, 96)]
theorem lw_r6 : ∀ q ∈ lw_privs_6, lw_okq q := List.forall_mem_cons.mpr ⟨lw_p80, List.forall_mem_cons.mpr ⟨lw_p81, List.forall_mem_cons.mpr ⟨lw_p82, List.forall_mem_cons.mpr ⟨lw_p83, List.forall_mem_cons.mpr ⟨lw_p84, List.forall_mem_cons.mpr ⟨lw_p85, List.forall_mem_cons.mpr ⟨lw_p86, List.forall_mem_cons.mpr ⟨lw_p87, List.forall_mem_cons.mpr ⟨lw_p88, List.forall_mem_cons.mpr ⟨lw_p89, List.forall_mem_cons.mpr ⟨lw_p90, List.forall_mem_cons.mpr ⟨lw_p91, List.forall_mem_cons.mpr ⟨lw_p92, List.forall_mem_cons.mpr ⟨lw_p93, List.forall_mem_cons.mpr ⟨lw_p94, List.forall_mem_cons.mpr ⟨lw_p95, fun _ h => absurd h List.not_mem_nil⟩⟩⟩⟩⟩⟩⟩⟩⟩⟩⟩⟩⟩⟩⟩⟩
theorem lw_p96 : lw_okq (⟨"LanternserverModel", "took", "(IIII[I)V"⟩, 96) := ⟨⟨by decide +kernel, by decide +kernel⟩, List.mem_of_getElem? (i := 2410) (by decide +kernel), List.mem_of_getElem? (i := 2977) (by decide +kernel), List.mem_of_getElem? (i := 2978) (by decide +kernel)⟩
theorem lw_p97 : lw_okq (⟨"LanternserverModel", "hostWith", "(I)I"⟩, 96) := ⟨⟨by decide +kernel, by decide +kernel⟩, List.mem_of_getElem? (i := 2410) (by decide +kernel), List.mem_of_getElem? (i := 2981) (by decide +kernel), List.mem_of_getElem? (i := 2982) (by decide +kernel)⟩
theorem lw_p98 : lw_okq (⟨"LanternserverModel", "isRight", "(III[I)Z"⟩, 96) := ⟨⟨by decide +kernel, by decide +kernel⟩, List.mem_of_getElem? (i := 2410) (by decide +kernel), List.mem_of_getElem? (i := 2986) (by decide +kernel), List.mem_of_getElem? (i := 2987) (by decide +kernel)⟩
theorem lw_p99 : lw_okq (⟨"LanternserverModel", "hasNoSum", "(I[I)Z"⟩, 96) := ⟨⟨by decide +kernel, by decide +kernel⟩, List.mem_of_getElem? (i := 2410) (by decide +kernel), List.mem_of_getElem? (i := 2990) (by decide +kernel), List.mem_of_getElem? (i := 2991) (by decide +kernel)⟩
theorem lw_p100 : lw_okq (⟨"LanternserverModel", "wasSent", "(IIII[I)Z"⟩, 96) := ⟨⟨by decide +kernel, by decide +kernel⟩, List.mem_of_getElem? (i := 2410) (by decide +kernel), List.mem_of_getElem? (i := 2998) (by decide +kernel), List.mem_of_getElem? (i := 2999) (by decide +kernel)⟩
theorem lw_p101 : lw_okq (⟨"LanternserverModel", "echoComes", "(II[I)V"⟩, 96) := ⟨⟨by decide +kernel, by decide +kernel⟩, List.mem_of_getElem? (i := 2410) (by decide +kernel), List.mem_of_getElem? (i := 3006) (by decide +kernel), List.mem_of_getElem? (i := 3007) (by decide +kernel)⟩
theorem lw_p102 : lw_okq (⟨"LanternserverModel", "datagram", "(III[IIIZ)[I"⟩, 96) := ⟨⟨by decide +kernel, by decide +kernel⟩, List.mem_of_getElem? (i := 2410) (by decide +kernel), List.mem_of_getElem? (i := 3014) (by decide +kernel), List.mem_of_getElem? (i := 3015) (by decide +kernel)⟩
theorem lw_p103 : lw_okq (⟨"LanternserverModel", "nameComes", "(II[I)V"⟩, 96) := ⟨⟨by decide +kernel, by decide +kernel⟩, List.mem_of_getElem? (i := 2410) (by decide +kernel), List.mem_of_getElem? (i := 3035) (by decide +kernel), List.mem_of_getElem? (i := 3036) (by decide +kernel)⟩
theorem lw_p104 : lw_okq (⟨"LanternserverModel", "questionComes", "(II[I)V"⟩, 96) := ⟨⟨by decide +kernel, by decide +kernel⟩, List.mem_of_getElem? (i := 2410) (by decide +kernel), List.mem_of_getElem? (i := 3039) (by decide +kernel), List.mem_of_getElem? (i := 3040) (by decide +kernel)⟩
theorem lw_p105 : lw_okq (⟨"LanternserverModel", "hostNamed", "([I)I"⟩, 96) := ⟨⟨by decide +kernel, by decide +kernel⟩, List.mem_of_getElem? (i := 2410) (by decide +kernel), List.mem_of_getElem? (i := 3050) (by decide +kernel), List.mem_of_getElem? (i := 3051) (by decide +kernel)⟩
theorem lw_p106 : lw_okq (⟨"LanternserverModel", "sendsByPorts", "(IIII[I)V"⟩, 96) := ⟨⟨by decide +kernel, by decide +kernel⟩, List.mem_of_getElem? (i := 2410) (by decide +kernel), List.mem_of_getElem? (i := 3068) (by decide +kernel), List.mem_of_getElem? (i := 3069) (by decide +kernel)⟩
theorem lw_p107 : lw_okq (⟨"LanternserverModel", "answerComes", "(II[I)V"⟩, 96) := ⟨⟨by decide +kernel, by decide +kernel⟩, List.mem_of_getElem? (i := 2410) (by decide +kernel), List.mem_of_getElem? (i := 3074) (by decide +kernel), List.mem_of_getElem? (i := 3075) (by decide +kernel)⟩
theorem lw_p108 : lw_okq (⟨"LanternserverModel", "segment", "(II[III)V"⟩, 96) := ⟨⟨by decide +kernel, by decide +kernel⟩, List.mem_of_getElem? (i := 2410) (by decide +kernel), List.mem_of_getElem? (i := 3078) (by decide +kernel), List.mem_of_getElem? (i := 3079) (by decide +kernel)⟩
theorem lw_p109 : lw_okq (⟨"LanternserverModel", "lineOf", "(IIII)LLanternserverModel$Line;"⟩, 96) := ⟨⟨by decide +kernel, by decide +kernel⟩, List.mem_of_getElem? (i := 2410) (by decide +kernel), List.mem_of_getElem? (i := 3088) (by decide +kernel), List.mem_of_getElem? (i := 3089) (by decide +kernel)⟩
theorem lw_p110 : lw_okq (⟨"LanternserverModel", "has", "(I)Z"⟩, 96) := ⟨⟨by decide +kernel, by decide +kernel⟩, List.mem_of_getElem? (i := 2410) (by decide +kernel), List.mem_of_getElem? (i := 3092) (by decide +kernel), List.mem_of_getElem? (i := 3093) (by decide +kernel)⟩
theorem lw_p111 : lw_okq (⟨"LanternserverModel", "comes", "(LLanternserverModel$Line;I)V"⟩, 96) := ⟨⟨by decide +kernel, by decide +kernel⟩, List.mem_of_getElem? (i := 2410) (by decide +kernel), List.mem_of_getElem? (i := 3099) (by decide +kernel), List.mem_of_getElem? (i := 3100) (by decide +kernel)⟩
def lw_privs_7 : List (MethodName × Nat) := [(⟨"LanternserverModel", "took", "(IIII[I)V"⟩, 96), (⟨"LanternserverModel", "hostWith", "(I)I"⟩, 96), (⟨"LanternserverModel", "isRight", "(III[I)Z"⟩, 96), (⟨"LanternserverModel", "hasNoSum", "(I[I)Z"⟩, 96), (⟨"LanternserverModel", "wasSent", "(IIII[I)Z"⟩, 96), (⟨"LanternserverModel", "echoComes", "(II[I)V"⟩, 96), (⟨"LanternserverModel", "datagram", "(III[IIIZ)[I"⟩, 96), (⟨"LanternserverModel", "nameComes", "(II[I)V"⟩, 96), (⟨"LanternserverModel", "questionComes", "(II[I)V"⟩, 96), (⟨"LanternserverModel", "hostNamed", "([I)I"⟩, 96), (⟨"LanternserverModel", "sendsByPorts", "(IIII[I)V"⟩, 96), (⟨"LanternserverModel", "answerComes", "(II[I)V"⟩, 96), (⟨"LanternserverModel", "segment", "(II[III)V"⟩, 96), (⟨"LanternserverModel", "lineOf", "(IIII)LLanternserverModel$Line;"⟩, 96), (⟨"LanternserverModel", "has", "(I)Z"⟩, 96), (⟨"LanternserverModel", "comes", "(LLanternserverModel$Line;I)V"⟩, 96)]
theorem lw_r7 : ∀ q ∈ lw_privs_7, lw_okq q := List.forall_mem_cons.mpr ⟨lw_p96, List.forall_mem_cons.mpr ⟨lw_p97, List.forall_mem_cons.mpr ⟨lw_p98, List.forall_mem_cons.mpr ⟨lw_p99, List.forall_mem_cons.mpr ⟨lw_p100, List.forall_mem_cons.mpr ⟨lw_p101, List.forall_mem_cons.mpr ⟨lw_p102, List.forall_mem_cons.mpr ⟨lw_p103, List.forall_mem_cons.mpr ⟨lw_p104, List.forall_mem_cons.mpr ⟨lw_p105, List.forall_mem_cons.mpr ⟨lw_p106, List.forall_mem_cons.mpr ⟨lw_p107, List.forall_mem_cons.mpr ⟨lw_p108, List.forall_mem_cons.mpr ⟨lw_p109, List.forall_mem_cons.mpr ⟨lw_p110, List.forall_mem_cons.mpr ⟨lw_p111, fun _ h => absurd h List.not_mem_nil⟩⟩⟩⟩⟩⟩⟩⟩⟩⟩⟩⟩⟩⟩⟩⟩
theorem lw_p112 : lw_okq (⟨"LanternserverModel", "answers", "(LLanternserverModel$Line;I)V"⟩, 96) := ⟨⟨by decide +kernel, by decide +kernel⟩, List.mem_of_getElem? (i := 2410) (by decide +kernel), List.mem_of_getElem? (i := 3103) (by decide +kernel), List.mem_of_getElem? (i := 3104) (by decide +kernel)⟩
theorem lw_p113 : lw_okq (⟨"LanternserverModel", "resets", "(LLanternserverModel$Line;I)V"⟩, 96) := ⟨⟨by decide +kernel, by decide +kernel⟩, List.mem_of_getElem? (i := 2410) (by decide +kernel), List.mem_of_getElem? (i := 3107) (by decide +kernel), List.mem_of_getElem? (i := 3108) (by decide +kernel)⟩
theorem lw_p114 : lw_okq (⟨"LanternserverModel", "sendSegment", "(IIIIIIIIILLanternserverModel$Bytes;II)V"⟩, 96) := ⟨⟨by decide +kernel, by decide +kernel⟩, List.mem_of_getElem? (i := 2410) (by decide +kernel), List.mem_of_getElem? (i := 3111) (by decide +kernel), List.mem_of_getElem? (i := 3112) (by decide +kernel)⟩
theorem lw_p115 : lw_okq (⟨"LanternserverModel", "answerer", "(LLanternserverModel$Line;)I"⟩, 96) := ⟨⟨by decide +kernel, by decide +kernel⟩, List.mem_of_getElem? (i := 2410) (by decide +kernel), List.mem_of_getElem? (i := 3122) (by decide +kernel), List.mem_of_getElem? (i := 3123) (by decide +kernel)⟩
theorem lw_p116 : lw_okq (⟨"LanternserverModel", "establishes", "(LLanternserverModel$Line;)V"⟩, 96) := ⟨⟨by decide +kernel, by decide +kernel⟩, List.mem_of_getElem? (i := 2410) (by decide +kernel), List.mem_of_getElem? (i := 3126) (by decide +kernel), List.mem_of_getElem? (i := 3127) (by decide +kernel)⟩
theorem lw_p117 : lw_okq (⟨"LanternserverModel", "acknowledges", "(LLanternserverModel$Line;)V"⟩, 96) := ⟨⟨by decide +kernel, by decide +kernel⟩, List.mem_of_getElem? (i := 2410) (by decide +kernel), List.mem_of_getElem? (i := 3130) (by decide +kernel), List.mem_of_getElem? (i := 3131) (by decide +kernel)⟩
theorem lw_p118 : lw_okq (⟨"LanternserverModel", "sendOn", "(LLanternserverModel$Line;IIII)V"⟩, 96) := ⟨⟨by decide +kernel, by decide +kernel⟩, List.mem_of_getElem? (i := 2410) (by decide +kernel), List.mem_of_getElem? (i := 3134) (by decide +kernel), List.mem_of_getElem? (i := 3135) (by decide +kernel)⟩
theorem lw_p119 : lw_okq (⟨"LanternserverModel", "sendsAll", "(LLanternserverModel$Line;)V"⟩, 96) := ⟨⟨by decide +kernel, by decide +kernel⟩, List.mem_of_getElem? (i := 2410) (by decide +kernel), List.mem_of_getElem? (i := 3150) (by decide +kernel), List.mem_of_getElem? (i := 3151) (by decide +kernel)⟩
theorem lw_p120 : lw_okq (⟨"LanternserverModel", "sendBytes", "(LLanternserverModel$Line;I)V"⟩, 96) := ⟨⟨by decide +kernel, by decide +kernel⟩, List.mem_of_getElem? (i := 2410) (by decide +kernel), List.mem_of_getElem? (i := 3168) (by decide +kernel), List.mem_of_getElem? (i := 3169) (by decide +kernel)⟩
theorem lw_p121 : lw_okq (⟨"LanternserverModel", "timesAnew", "(LLanternserverModel$Line;)V"⟩, 96) := ⟨⟨by decide +kernel, by decide +kernel⟩, List.mem_of_getElem? (i := 2410) (by decide +kernel), List.mem_of_getElem? (i := 3172) (by decide +kernel), List.mem_of_getElem? (i := 3173) (by decide +kernel)⟩
theorem lw_p122 : lw_okq (⟨"LanternserverModel", "isAcknowledged", "(LLanternserverModel$Line;)Z"⟩, 96) := ⟨⟨by decide +kernel, by decide +kernel⟩, List.mem_of_getElem? (i := 2410) (by decide +kernel), List.mem_of_getElem? (i := 3185) (by decide +kernel), List.mem_of_getElem? (i := 3186) (by decide +kernel)⟩
theorem lw_p123 : lw_okq (⟨"LanternserverModel", "measures", "(LLanternserverModel$Line;)V"⟩, 96) := ⟨⟨by decide +kernel, by decide +kernel⟩, List.mem_of_getElem? (i := 2410) (by decide +kernel), List.mem_of_getElem? (i := 3193) (by decide +kernel), List.mem_of_getElem? (i := 3194) (by decide +kernel)⟩
theorem lw_p124 : lw_okq (⟨"LanternserverModel", "sendsAgain", "(LLanternserverModel$Line;)V"⟩, 96) := ⟨⟨by decide +kernel, by decide +kernel⟩, List.mem_of_getElem? (i := 2410) (by decide +kernel), List.mem_of_getElem? (i := 3197) (by decide +kernel), List.mem_of_getElem? (i := 3198) (by decide +kernel)⟩
theorem lw_p125 : lw_okq (⟨"LanternserverModel", "shrinks", "(LLanternserverModel$Line;Z)V"⟩, 96) := ⟨⟨by decide +kernel, by decide +kernel⟩, List.mem_of_getElem? (i := 2410) (by decide +kernel), List.mem_of_getElem? (i := 3205) (by decide +kernel), List.mem_of_getElem? (i := 3206) (by decide +kernel)⟩
theorem lw_p126 : lw_okq (⟨"LanternserverModel", "isFinGone", "(LLanternserverModel$Line;)Z"⟩, 96) := ⟨⟨by decide +kernel, by decide +kernel⟩, List.mem_of_getElem? (i := 2410) (by decide +kernel), List.mem_of_getElem? (i := 3209) (by decide +kernel), List.mem_of_getElem? (i := 3210) (by decide +kernel)⟩
theorem lw_p127 : lw_okq (⟨"LanternserverModel", "takesBytes", "(LLanternserverModel$Line;)V"⟩, 96) := ⟨⟨by decide +kernel, by decide +kernel⟩, List.mem_of_getElem? (i := 2410) (by decide +kernel), List.mem_of_getElem? (i := 3213) (by decide +kernel), List.mem_of_getElem? (i := 3214) (by decide +kernel)⟩
def lw_privs_8 : List (MethodName × Nat) := [(⟨"LanternserverModel", "answers", "(LLanternserverModel$Line;I)V"⟩, 96), (⟨"LanternserverModel", "resets", "(LLanternserverModel$Line;I)V"⟩, 96), (⟨"LanternserverModel", "sendSegment", "(IIIIIIIIILLanternserverModel$Bytes;II)V"⟩, 96), (⟨"LanternserverModel", "answerer", "(LLanternserverModel$Line;)I"⟩, 96), (⟨"LanternserverModel", "establishes", "(LLanternserverModel$Line;)V"⟩, 96), (⟨"LanternserverModel", "acknowledges", "(LLanternserverModel$Line;)V"⟩, 96), (⟨"LanternserverModel", "sendOn", "(LLanternserverModel$Line;IIII)V"⟩, 96), (⟨"LanternserverModel", "sendsAll", "(LLanternserverModel$Line;)V"⟩, 96), (⟨"LanternserverModel", "sendBytes", "(LLanternserverModel$Line;I)V"⟩, 96), (⟨"LanternserverModel", "timesAnew", "(LLanternserverModel$Line;)V"⟩, 96), (⟨"LanternserverModel", "isAcknowledged", "(LLanternserverModel$Line;)Z"⟩, 96), (⟨"LanternserverModel", "measures", "(LLanternserverModel$Line;)V"⟩, 96), (⟨"LanternserverModel", "sendsAgain", "(LLanternserverModel$Line;)V"⟩, 96), (⟨"LanternserverModel", "shrinks", "(LLanternserverModel$Line;Z)V"⟩, 96), (⟨"LanternserverModel", "isFinGone", "(LLanternserverModel$Line;)Z"⟩, 96), (⟨"LanternserverModel", "takesBytes", "(LLanternserverModel$Line;)V"⟩, 96)]
theorem lw_r8 : ∀ q ∈ lw_privs_8, lw_okq q := List.forall_mem_cons.mpr ⟨lw_p112, List.forall_mem_cons.mpr ⟨lw_p113, List.forall_mem_cons.mpr ⟨lw_p114, List.forall_mem_cons.mpr ⟨lw_p115, List.forall_mem_cons.mpr ⟨lw_p116, List.forall_mem_cons.mpr ⟨lw_p117, List.forall_mem_cons.mpr ⟨lw_p118, List.forall_mem_cons.mpr ⟨lw_p119, List.forall_mem_cons.mpr ⟨lw_p120, List.forall_mem_cons.mpr ⟨lw_p121, List.forall_mem_cons.mpr ⟨lw_p122, List.forall_mem_cons.mpr ⟨lw_p123, List.forall_mem_cons.mpr ⟨lw_p124, List.forall_mem_cons.mpr ⟨lw_p125, List.forall_mem_cons.mpr ⟨lw_p126, List.forall_mem_cons.mpr ⟨lw_p127, fun _ h => absurd h List.not_mem_nil⟩⟩⟩⟩⟩⟩⟩⟩⟩⟩⟩⟩⟩⟩⟩⟩
theorem lw_p128 : lw_okq (⟨"LanternserverModel", "keeps", "(LLanternserverModel$Line;I)V"⟩, 96) := ⟨⟨by decide +kernel, by decide +kernel⟩, List.mem_of_getElem? (i := 2410) (by decide +kernel), List.mem_of_getElem? (i := 3217) (by decide +kernel), List.mem_of_getElem? (i := 3218) (by decide +kernel)⟩
theorem lw_p129 : lw_okq (⟨"LanternserverModel", "finComes", "(LLanternserverModel$Line;)V"⟩, 96) := ⟨⟨by decide +kernel, by decide +kernel⟩, List.mem_of_getElem? (i := 2410) (by decide +kernel), List.mem_of_getElem? (i := 3243) (by decide +kernel), List.mem_of_getElem? (i := 3244) (by decide +kernel)⟩
theorem lw_p130 : lw_okq (⟨"LanternserverModel", "serves", "(I)V"⟩, 96) := ⟨⟨by decide +kernel, by decide +kernel⟩, List.mem_of_getElem? (i := 2410) (by decide +kernel), List.mem_of_getElem? (i := 3247) (by decide +kernel), List.mem_of_getElem? (i := 3248) (by decide +kernel)⟩
theorem lw_p131 : lw_okq (⟨"LanternserverModel", "beginsRequest", "(I)V"⟩, 96) := ⟨⟨by decide +kernel, by decide +kernel⟩, List.mem_of_getElem? (i := 2410) (by decide +kernel), List.mem_of_getElem? (i := 3251) (by decide +kernel), List.mem_of_getElem? (i := 3252) (by decide +kernel)⟩
theorem lw_p132 : lw_okq (⟨"LanternserverModel", "isOpen", "(I)Z"⟩, 96) := ⟨⟨by decide +kernel, by decide +kernel⟩, List.mem_of_getElem? (i := 2410) (by decide +kernel), List.mem_of_getElem? (i := 3255) (by decide +kernel), List.mem_of_getElem? (i := 3256) (by decide +kernel)⟩
theorem lw_p133 : lw_okq (⟨"LanternserverModel", "writesOn", "(I)V"⟩, 96) := ⟨⟨by decide +kernel, by decide +kernel⟩, List.mem_of_getElem? (i := 2410) (by decide +kernel), List.mem_of_getElem? (i := 3259) (by decide +kernel), List.mem_of_getElem? (i := 3260) (by decide +kernel)⟩
theorem lw_p134 : lw_okq (⟨"LanternserverModel", "room", "(I)I"⟩, 96) := ⟨⟨by decide +kernel, by decide +kernel⟩, List.mem_of_getElem? (i := 2410) (by decide +kernel), List.mem_of_getElem? (i := 3263) (by decide +kernel), List.mem_of_getElem? (i := 3264) (by decide +kernel)⟩
theorem lw_p135 : lw_okq (⟨"LanternserverModel", "writes", "(II)V"⟩, 96) := ⟨⟨by decide +kernel, by decide +kernel⟩, List.mem_of_getElem? (i := 2410) (by decide +kernel), List.mem_of_getElem? (i := 3267) (by decide +kernel), List.mem_of_getElem? (i := 3268) (by decide +kernel)⟩
theorem lw_p136 : lw_okq (⟨"LanternserverModel", "closes", "(I)V"⟩, 96) := ⟨⟨by decide +kernel, by decide +kernel⟩, List.mem_of_getElem? (i := 2410) (by decide +kernel), List.mem_of_getElem? (i := 3271) (by decide +kernel), List.mem_of_getElem? (i := 3272) (by decide +kernel)⟩
theorem lw_p137 : lw_okq (⟨"LanternserverModel", "isToRead", "(I)I"⟩, 96) := ⟨⟨by decide +kernel, by decide +kernel⟩, List.mem_of_getElem? (i := 2410) (by decide +kernel), List.mem_of_getElem? (i := 3275) (by decide +kernel), List.mem_of_getElem? (i := 3276) (by decide +kernel)⟩
theorem lw_p138 : lw_okq (⟨"LanternserverModel", "takes", "(I)I"⟩, 96) := ⟨⟨by decide +kernel, by decide +kernel⟩, List.mem_of_getElem? (i := 2410) (by decide +kernel), List.mem_of_getElem? (i := 3280) (by decide +kernel), List.mem_of_getElem? (i := 3281) (by decide +kernel)⟩
theorem lw_p139 : lw_okq (⟨"LanternserverModel", "reads", "(LLanternserverModel$Line;I)V"⟩, 96) := ⟨⟨by decide +kernel, by decide +kernel⟩, List.mem_of_getElem? (i := 2410) (by decide +kernel), List.mem_of_getElem? (i := 3284) (by decide +kernel), List.mem_of_getElem? (i := 3285) (by decide +kernel)⟩
theorem lw_p140 : lw_okq (⟨"LanternserverModel", "looksAt", "(II)I"⟩, 96) := ⟨⟨by decide +kernel, by decide +kernel⟩, List.mem_of_getElem? (i := 2410) (by decide +kernel), List.mem_of_getElem? (i := 3288) (by decide +kernel), List.mem_of_getElem? (i := 3289) (by decide +kernel)⟩
theorem lw_p141 : lw_okq (⟨"LanternserverModel", "looksInLine", "(II)I"⟩, 96) := ⟨⟨by decide +kernel, by decide +kernel⟩, List.mem_of_getElem? (i := 2410) (by decide +kernel), List.mem_of_getElem? (i := 3292) (by decide +kernel), List.mem_of_getElem? (i := 3293) (by decide +kernel)⟩
theorem lw_p142 : lw_okq (⟨"LanternserverModel", "stands", "(II)Z"⟩, 96) := ⟨⟨by decide +kernel, by decide +kernel⟩, List.mem_of_getElem? (i := 2410) (by decide +kernel), List.mem_of_getElem? (i := 3296) (by decide +kernel), List.mem_of_getElem? (i := 3297) (by decide +kernel)⟩
theorem lw_p143 : lw_okq (⟨"LanternserverModel", "endsLine", "(I)V"⟩, 96) := ⟨⟨by decide +kernel, by decide +kernel⟩, List.mem_of_getElem? (i := 2410) (by decide +kernel), List.mem_of_getElem? (i := 3313) (by decide +kernel), List.mem_of_getElem? (i := 3314) (by decide +kernel)⟩
def lw_privs_9 : List (MethodName × Nat) := [(⟨"LanternserverModel", "keeps", "(LLanternserverModel$Line;I)V"⟩, 96), (⟨"LanternserverModel", "finComes", "(LLanternserverModel$Line;)V"⟩, 96), (⟨"LanternserverModel", "serves", "(I)V"⟩, 96), (⟨"LanternserverModel", "beginsRequest", "(I)V"⟩, 96), (⟨"LanternserverModel", "isOpen", "(I)Z"⟩, 96), (⟨"LanternserverModel", "writesOn", "(I)V"⟩, 96), (⟨"LanternserverModel", "room", "(I)I"⟩, 96), (⟨"LanternserverModel", "writes", "(II)V"⟩, 96), (⟨"LanternserverModel", "closes", "(I)V"⟩, 96), (⟨"LanternserverModel", "isToRead", "(I)I"⟩, 96), (⟨"LanternserverModel", "takes", "(I)I"⟩, 96), (⟨"LanternserverModel", "reads", "(LLanternserverModel$Line;I)V"⟩, 96), (⟨"LanternserverModel", "looksAt", "(II)I"⟩, 96), (⟨"LanternserverModel", "looksInLine", "(II)I"⟩, 96), (⟨"LanternserverModel", "stands", "(II)Z"⟩, 96), (⟨"LanternserverModel", "endsLine", "(I)V"⟩, 96)]
theorem lw_r9 : ∀ q ∈ lw_privs_9, lw_okq q := List.forall_mem_cons.mpr ⟨lw_p128, List.forall_mem_cons.mpr ⟨lw_p129, List.forall_mem_cons.mpr ⟨lw_p130, List.forall_mem_cons.mpr ⟨lw_p131, List.forall_mem_cons.mpr ⟨lw_p132, List.forall_mem_cons.mpr ⟨lw_p133, List.forall_mem_cons.mpr ⟨lw_p134, List.forall_mem_cons.mpr ⟨lw_p135, List.forall_mem_cons.mpr ⟨lw_p136, List.forall_mem_cons.mpr ⟨lw_p137, List.forall_mem_cons.mpr ⟨lw_p138, List.forall_mem_cons.mpr ⟨lw_p139, List.forall_mem_cons.mpr ⟨lw_p140, List.forall_mem_cons.mpr ⟨lw_p141, List.forall_mem_cons.mpr ⟨lw_p142, List.forall_mem_cons.mpr ⟨lw_p143, fun _ h => absurd h List.not_mem_nil⟩⟩⟩⟩⟩⟩⟩⟩⟩⟩⟩⟩⟩⟩⟩⟩
theorem lw_p144 : lw_okq (⟨"LanternserverModel", "tellsLength", "(I)V"⟩, 96) := ⟨⟨by decide +kernel, by decide +kernel⟩, List.mem_of_getElem? (i := 2410) (by decide +kernel), List.mem_of_getElem? (i := 3317) (by decide +kernel), List.mem_of_getElem? (i := 3318) (by decide +kernel)⟩
theorem lw_p145 : lw_okq (⟨"LanternserverModel", "number", "(II)I"⟩, 96) := ⟨⟨by decide +kernel, by decide +kernel⟩, List.mem_of_getElem? (i := 2410) (by decide +kernel), List.mem_of_getElem? (i := 3321) (by decide +kernel), List.mem_of_getElem? (i := 3322) (by decide +kernel)⟩
theorem lw_p146 : lw_okq (⟨"LanternserverModel", "valueAt", "(II)I"⟩, 96) := ⟨⟨by decide +kernel, by decide +kernel⟩, List.mem_of_getElem? (i := 2410) (by decide +kernel), List.mem_of_getElem? (i := 3325) (by decide +kernel), List.mem_of_getElem? (i := 3326) (by decide +kernel)⟩
theorem lw_p147 : lw_okq (⟨"LanternserverModel", "isValue", "(II)Z"⟩, 96) := ⟨⟨by decide +kernel, by decide +kernel⟩, List.mem_of_getElem? (i := 2410) (by decide +kernel), List.mem_of_getElem? (i := 3332) (by decide +kernel), List.mem_of_getElem? (i := 3333) (by decide +kernel)⟩
theorem lw_p148 : lw_okq (⟨"LanternserverModel", "textLong", "(I)I"⟩, 96) := ⟨⟨by decide +kernel, by decide +kernel⟩, List.mem_of_getElem? (i := 2410) (by decide +kernel), List.mem_of_getElem? (i := 3336) (by decide +kernel), List.mem_of_getElem? (i := 3337) (by decide +kernel)⟩
theorem lw_p149 : lw_okq (⟨"LanternserverModel", "textAt", "(II)I"⟩, 96) := ⟨⟨by decide +kernel, by decide +kernel⟩, List.mem_of_getElem? (i := 2410) (by decide +kernel), List.mem_of_getElem? (i := 3343) (by decide +kernel), List.mem_of_getElem? (i := 3344) (by decide +kernel)⟩
theorem lw_p150 : lw_okq (⟨"LanternserverModel", "tagOf", "(I)I"⟩, 96) := ⟨⟨by decide +kernel, by decide +kernel⟩, List.mem_of_getElem? (i := 2410) (by decide +kernel), List.mem_of_getElem? (i := 3347) (by decide +kernel), List.mem_of_getElem? (i := 3348) (by decide +kernel)⟩
theorem lw_p151 : lw_okq (⟨"LanternserverModel", "tellsRange", "(I)V"⟩, 96) := ⟨⟨by decide +kernel, by decide +kernel⟩, List.mem_of_getElem? (i := 2410) (by decide +kernel), List.mem_of_getElem? (i := 3351) (by decide +kernel), List.mem_of_getElem? (i := 3352) (by decide +kernel)⟩
theorem lw_p152 : lw_okq (⟨"LanternserverModel", "takesMethod", "(II)V"⟩, 96) := ⟨⟨by decide +kernel, by decide +kernel⟩, List.mem_of_getElem? (i := 2410) (by decide +kernel), List.mem_of_getElem? (i := 3355) (by decide +kernel), List.mem_of_getElem? (i := 3356) (by decide +kernel)⟩
theorem lw_p153 : lw_okq (⟨"LanternserverModel", "through", "(III)I"⟩, 96) := ⟨⟨by decide +kernel, by decide +kernel⟩, List.mem_of_getElem? (i := 2410) (by decide +kernel), List.mem_of_getElem? (i := 3359) (by decide +kernel), List.mem_of_getElem? (i := 3360) (by decide +kernel)⟩
theorem lw_p154 : lw_okq (⟨"LanternserverModel", "fitting", "(IIII)I"⟩, 96) := ⟨⟨by decide +kernel, by decide +kernel⟩, List.mem_of_getElem? (i := 2410) (by decide +kernel), List.mem_of_getElem? (i := 3363) (by decide +kernel), List.mem_of_getElem? (i := 3364) (by decide +kernel)⟩
theorem lw_p155 : lw_okq (⟨"LanternserverModel", "takesTarget", "(II)V"⟩, 96) := ⟨⟨by decide +kernel, by decide +kernel⟩, List.mem_of_getElem? (i := 2410) (by decide +kernel), List.mem_of_getElem? (i := 3367) (by decide +kernel), List.mem_of_getElem? (i := 3368) (by decide +kernel)⟩
theorem lw_p156 : lw_okq (⟨"LanternserverModel", "nextWord", "(III)V"⟩, 96) := ⟨⟨by decide +kernel, by decide +kernel⟩, List.mem_of_getElem? (i := 2410) (by decide +kernel), List.mem_of_getElem? (i := 3371) (by decide +kernel), List.mem_of_getElem? (i := 3372) (by decide +kernel)⟩
theorem lw_p157 : lw_okq (⟨"LanternserverModel", "takesVersion", "(II)V"⟩, 96) := ⟨⟨by decide +kernel, by decide +kernel⟩, List.mem_of_getElem? (i := 2410) (by decide +kernel), List.mem_of_getElem? (i := 3375) (by decide +kernel), List.mem_of_getElem? (i := 3376) (by decide +kernel)⟩
theorem lw_p158 : lw_okq (⟨"LanternserverModel", "takesName", "(II)V"⟩, 96) := ⟨⟨by decide +kernel, by decide +kernel⟩, List.mem_of_getElem? (i := 2410) (by decide +kernel), List.mem_of_getElem? (i := 3380) (by decide +kernel), List.mem_of_getElem? (i := 3381) (by decide +kernel)⟩
theorem lw_p159 : lw_okq (⟨"LanternserverModel", "takesValue", "(II)V"⟩, 96) := ⟨⟨by decide +kernel, by decide +kernel⟩, List.mem_of_getElem? (i := 2410) (by decide +kernel), List.mem_of_getElem? (i := 3384) (by decide +kernel), List.mem_of_getElem? (i := 3385) (by decide +kernel)⟩
def lw_privs_10 : List (MethodName × Nat) := [(⟨"LanternserverModel", "tellsLength", "(I)V"⟩, 96), (⟨"LanternserverModel", "number", "(II)I"⟩, 96), (⟨"LanternserverModel", "valueAt", "(II)I"⟩, 96), (⟨"LanternserverModel", "isValue", "(II)Z"⟩, 96), (⟨"LanternserverModel", "textLong", "(I)I"⟩, 96), (⟨"LanternserverModel", "textAt", "(II)I"⟩, 96), (⟨"LanternserverModel", "tagOf", "(I)I"⟩, 96), (⟨"LanternserverModel", "tellsRange", "(I)V"⟩, 96), (⟨"LanternserverModel", "takesMethod", "(II)V"⟩, 96), (⟨"LanternserverModel", "through", "(III)I"⟩, 96), (⟨"LanternserverModel", "fitting", "(IIII)I"⟩, 96), (⟨"LanternserverModel", "takesTarget", "(II)V"⟩, 96), (⟨"LanternserverModel", "nextWord", "(III)V"⟩, 96), (⟨"LanternserverModel", "takesVersion", "(II)V"⟩, 96), (⟨"LanternserverModel", "takesName", "(II)V"⟩, 96), (⟨"LanternserverModel", "takesValue", "(II)V"⟩, 96)]
theorem lw_r10 : ∀ q ∈ lw_privs_10, lw_okq q := List.forall_mem_cons.mpr ⟨lw_p144, List.forall_mem_cons.mpr ⟨lw_p145, List.forall_mem_cons.mpr ⟨lw_p146, List.forall_mem_cons.mpr ⟨lw_p147, List.forall_mem_cons.mpr ⟨lw_p148, List.forall_mem_cons.mpr ⟨lw_p149, List.forall_mem_cons.mpr ⟨lw_p150, List.forall_mem_cons.mpr ⟨lw_p151, List.forall_mem_cons.mpr ⟨lw_p152, List.forall_mem_cons.mpr ⟨lw_p153, List.forall_mem_cons.mpr ⟨lw_p154, List.forall_mem_cons.mpr ⟨lw_p155, List.forall_mem_cons.mpr ⟨lw_p156, List.forall_mem_cons.mpr ⟨lw_p157, List.forall_mem_cons.mpr ⟨lw_p158, List.forall_mem_cons.mpr ⟨lw_p159, fun _ h => absurd h List.not_mem_nil⟩⟩⟩⟩⟩⟩⟩⟩⟩⟩⟩⟩⟩⟩⟩⟩
theorem lw_p160 : lw_okq (⟨"LanternserverModel", "looksAtLine", "(II)I"⟩, 96) := ⟨⟨by decide +kernel, by decide +kernel⟩, List.mem_of_getElem? (i := 2410) (by decide +kernel), List.mem_of_getElem? (i := 3388) (by decide +kernel), List.mem_of_getElem? (i := 3389) (by decide +kernel)⟩
theorem lw_p161 : lw_okq (⟨"LanternserverModel", "endsHead", "(I)I"⟩, 96) := ⟨⟨by decide +kernel, by decide +kernel⟩, List.mem_of_getElem? (i := 2410) (by decide +kernel), List.mem_of_getElem? (i := 3392) (by decide +kernel), List.mem_of_getElem? (i := 3393) (by decide +kernel)⟩
theorem lw_p162 : lw_okq (⟨"LanternserverModel", "takesBody", "(II)V"⟩, 96) := ⟨⟨by decide +kernel, by decide +kernel⟩, List.mem_of_getElem? (i := 2410) (by decide +kernel), List.mem_of_getElem? (i := 3396) (by decide +kernel), List.mem_of_getElem? (i := 3397) (by decide +kernel)⟩
theorem lw_p163 : lw_okq (⟨"LanternserverModel", "looksInChunks", "(II)I"⟩, 96) := ⟨⟨by decide +kernel, by decide +kernel⟩, List.mem_of_getElem? (i := 2410) (by decide +kernel), List.mem_of_getElem? (i := 3400) (by decide +kernel), List.mem_of_getElem? (i := 3401) (by decide +kernel)⟩
theorem lw_p164 : lw_okq (⟨"LanternserverModel", "looksAtSize", "(II)I"⟩, 96) := ⟨⟨by decide +kernel, by decide +kernel⟩, List.mem_of_getElem? (i := 2410) (by decide +kernel), List.mem_of_getElem? (i := 3404) (by decide +kernel), List.mem_of_getElem? (i := 3405) (by decide +kernel)⟩
theorem lw_p165 : lw_okq (⟨"LanternserverModel", "goesTo", "(II)I"⟩, 96) := ⟨⟨by decide +kernel, by decide +kernel⟩, List.mem_of_getElem? (i := 2410) (by decide +kernel), List.mem_of_getElem? (i := 3408) (by decide +kernel), List.mem_of_getElem? (i := 3409) (by decide +kernel)⟩
theorem lw_p166 : lw_okq (⟨"LanternserverModel", "servesOne", "(II)V"⟩, 96) := ⟨⟨by decide +kernel, by decide +kernel⟩, List.mem_of_getElem? (i := 2410) (by decide +kernel), List.mem_of_getElem? (i := 3416) (by decide +kernel), List.mem_of_getElem? (i := 3417) (by decide +kernel)⟩
theorem lw_p167 : lw_okq (⟨"LanternserverModel", "isLast", "(IZ)Z"⟩, 96) := ⟨⟨by decide +kernel, by decide +kernel⟩, List.mem_of_getElem? (i := 2410) (by decide +kernel), List.mem_of_getElem? (i := 3423) (by decide +kernel), List.mem_of_getElem? (i := 3424) (by decide +kernel)⟩
theorem lw_p168 : lw_okq (⟨"LanternserverModel", "does", "(III)I"⟩, 96) := ⟨⟨by decide +kernel, by decide +kernel⟩, List.mem_of_getElem? (i := 2410) (by decide +kernel), List.mem_of_getElem? (i := 3427) (by decide +kernel), List.mem_of_getElem? (i := 3428) (by decide +kernel)⟩
theorem lw_p169 : lw_okq (⟨"LanternserverModel", "isDone", "(II)I"⟩, 96) := ⟨⟨by decide +kernel, by decide +kernel⟩, List.mem_of_getElem? (i := 2410) (by decide +kernel), List.mem_of_getElem? (i := 3431) (by decide +kernel), List.mem_of_getElem? (i := 3432) (by decide +kernel)⟩
theorem lw_p170 : lw_okq (⟨"LanternserverModel", "targetKind", "(I)I"⟩, 96) := ⟨⟨by decide +kernel, by decide +kernel⟩, List.mem_of_getElem? (i := 2410) (by decide +kernel), List.mem_of_getElem? (i := 3435) (by decide +kernel), List.mem_of_getElem? (i := 3436) (by decide +kernel)⟩
theorem lw_p171 : lw_okq (⟨"LanternserverModel", "targetAt", "(II)I"⟩, 96) := ⟨⟨by decide +kernel, by decide +kernel⟩, List.mem_of_getElem? (i := 2410) (by decide +kernel), List.mem_of_getElem? (i := 3439) (by decide +kernel), List.mem_of_getElem? (i := 3440) (by decide +kernel)⟩
theorem lw_p172 : lw_okq (⟨"LanternserverModel", "fileOf", "(II)I"⟩, 96) := ⟨⟨by decide +kernel, by decide +kernel⟩, List.mem_of_getElem? (i := 2410) (by decide +kernel), List.mem_of_getElem? (i := 3443) (by decide +kernel), List.mem_of_getElem? (i := 3444) (by decide +kernel)⟩
theorem lw_p173 : lw_okq (⟨"LanternserverModel", "compares", "(II)I"⟩, 96) := ⟨⟨by decide +kernel, by decide +kernel⟩, List.mem_of_getElem? (i := 2410) (by decide +kernel), List.mem_of_getElem? (i := 3447) (by decide +kernel), List.mem_of_getElem? (i := 3448) (by decide +kernel)⟩
theorem lw_p174 : lw_okq (⟨"LanternserverModel", "isPut", "(III)I"⟩, 96) := ⟨⟨by decide +kernel, by decide +kernel⟩, List.mem_of_getElem? (i := 2410) (by decide +kernel), List.mem_of_getElem? (i := 3451) (by decide +kernel), List.mem_of_getElem? (i := 3452) (by decide +kernel)⟩
theorem lw_p175 : lw_okq (⟨"LanternserverModel", "isRefused", "(II)Z"⟩, 96) := ⟨⟨by decide +kernel, by decide +kernel⟩, List.mem_of_getElem? (i := 2410) (by decide +kernel), List.mem_of_getElem? (i := 3455) (by decide +kernel), List.mem_of_getElem? (i := 3456) (by decide +kernel)⟩
def lw_privs_11 : List (MethodName × Nat) := [(⟨"LanternserverModel", "looksAtLine", "(II)I"⟩, 96), (⟨"LanternserverModel", "endsHead", "(I)I"⟩, 96), (⟨"LanternserverModel", "takesBody", "(II)V"⟩, 96), (⟨"LanternserverModel", "looksInChunks", "(II)I"⟩, 96), (⟨"LanternserverModel", "looksAtSize", "(II)I"⟩, 96), (⟨"LanternserverModel", "goesTo", "(II)I"⟩, 96), (⟨"LanternserverModel", "servesOne", "(II)V"⟩, 96), (⟨"LanternserverModel", "isLast", "(IZ)Z"⟩, 96), (⟨"LanternserverModel", "does", "(III)I"⟩, 96), (⟨"LanternserverModel", "isDone", "(II)I"⟩, 96), (⟨"LanternserverModel", "targetKind", "(I)I"⟩, 96), (⟨"LanternserverModel", "targetAt", "(II)I"⟩, 96), (⟨"LanternserverModel", "fileOf", "(II)I"⟩, 96), (⟨"LanternserverModel", "compares", "(II)I"⟩, 96), (⟨"LanternserverModel", "isPut", "(III)I"⟩, 96), (⟨"LanternserverModel", "isRefused", "(II)Z"⟩, 96)]
theorem lw_r11 : ∀ q ∈ lw_privs_11, lw_okq q := List.forall_mem_cons.mpr ⟨lw_p160, List.forall_mem_cons.mpr ⟨lw_p161, List.forall_mem_cons.mpr ⟨lw_p162, List.forall_mem_cons.mpr ⟨lw_p163, List.forall_mem_cons.mpr ⟨lw_p164, List.forall_mem_cons.mpr ⟨lw_p165, List.forall_mem_cons.mpr ⟨lw_p166, List.forall_mem_cons.mpr ⟨lw_p167, List.forall_mem_cons.mpr ⟨lw_p168, List.forall_mem_cons.mpr ⟨lw_p169, List.forall_mem_cons.mpr ⟨lw_p170, List.forall_mem_cons.mpr ⟨lw_p171, List.forall_mem_cons.mpr ⟨lw_p172, List.forall_mem_cons.mpr ⟨lw_p173, List.forall_mem_cons.mpr ⟨lw_p174, List.forall_mem_cons.mpr ⟨lw_p175, fun _ h => absurd h List.not_mem_nil⟩⟩⟩⟩⟩⟩⟩⟩⟩⟩⟩⟩⟩⟩⟩⟩
theorem lw_p176 : lw_okq (⟨"LanternserverModel", "fitsTag", "(II)Z"⟩, 96) := ⟨⟨by decide +kernel, by decide +kernel⟩, List.mem_of_getElem? (i := 2410) (by decide +kernel), List.mem_of_getElem? (i := 3459) (by decide +kernel), List.mem_of_getElem? (i := 3460) (by decide +kernel)⟩
theorem lw_p177 : lw_okq (⟨"LanternserverModel", "newFile", "(II)I"⟩, 96) := ⟨⟨by decide +kernel, by decide +kernel⟩, List.mem_of_getElem? (i := 2410) (by decide +kernel), List.mem_of_getElem? (i := 3463) (by decide +kernel), List.mem_of_getElem? (i := 3464) (by decide +kernel)⟩
theorem lw_p178 : lw_okq (⟨"LanternserverModel", "copiesFile", "(II)V"⟩, 96) := ⟨⟨by decide +kernel, by decide +kernel⟩, List.mem_of_getElem? (i := 2410) (by decide +kernel), List.mem_of_getElem? (i := 3467) (by decide +kernel), List.mem_of_getElem? (i := 3468) (by decide +kernel)⟩
theorem lw_p179 : lw_okq (⟨"LanternserverModel", "putsBody", "(III)V"⟩, 96) := ⟨⟨by decide +kernel, by decide +kernel⟩, List.mem_of_getElem? (i := 2410) (by decide +kernel), List.mem_of_getElem? (i := 3471) (by decide +kernel), List.mem_of_getElem? (i := 3472) (by decide +kernel)⟩
theorem lw_p180 : lw_okq (⟨"LanternserverModel", "range", "(II)I"⟩, 96) := ⟨⟨by decide +kernel, by decide +kernel⟩, List.mem_of_getElem? (i := 2410) (by decide +kernel), List.mem_of_getElem? (i := 3475) (by decide +kernel), List.mem_of_getElem? (i := 3476) (by decide +kernel)⟩
theorem lw_p181 : lw_okq (⟨"LanternserverModel", "dropsFile", "(II)V"⟩, 96) := ⟨⟨by decide +kernel, by decide +kernel⟩, List.mem_of_getElem? (i := 2410) (by decide +kernel), List.mem_of_getElem? (i := 3479) (by decide +kernel), List.mem_of_getElem? (i := 3480) (by decide +kernel)⟩
theorem lw_p182 : lw_okq (⟨"LanternserverModel", "answers", "(IIIZZ)V"⟩, 96) := ⟨⟨by decide +kernel, by decide +kernel⟩, List.mem_of_getElem? (i := 2410) (by decide +kernel), List.mem_of_getElem? (i := 3483) (by decide +kernel), List.mem_of_getElem? (i := 3484) (by decide +kernel)⟩
theorem lw_p183 : lw_okq (⟨"LanternserverModel", "wordOf", "(I)I"⟩, 96) := ⟨⟨by decide +kernel, by decide +kernel⟩, List.mem_of_getElem? (i := 2410) (by decide +kernel), List.mem_of_getElem? (i := 3487) (by decide +kernel), List.mem_of_getElem? (i := 3488) (by decide +kernel)⟩
theorem lw_p184 : lw_okq (⟨"LanternserverModel", "listLong", "(I)I"⟩, 96) := ⟨⟨by decide +kernel, by decide +kernel⟩, List.mem_of_getElem? (i := 2410) (by decide +kernel), List.mem_of_getElem? (i := 3491) (by decide +kernel), List.mem_of_getElem? (i := 3492) (by decide +kernel)⟩
theorem lw_p185 : lw_okq (⟨"LanternserverModel", "saysText", "(I)V"⟩, 96) := ⟨⟨by decide +kernel, by decide +kernel⟩, List.mem_of_getElem? (i := 2410) (by decide +kernel), List.mem_of_getElem? (i := 3495) (by decide +kernel), List.mem_of_getElem? (i := 3496) (by decide +kernel)⟩
theorem lw_p186 : lw_okq (⟨"LanternserverModel", "says", "(I)V"⟩, 96) := ⟨⟨by decide +kernel, by decide +kernel⟩, List.mem_of_getElem? (i := 2410) (by decide +kernel), List.mem_of_getElem? (i := 3499) (by decide +kernel), List.mem_of_getElem? (i := 3500) (by decide +kernel)⟩
theorem lw_p187 : lw_okq (⟨"LanternserverModel", "saysNumber", "(I)V"⟩, 96) := ⟨⟨by decide +kernel, by decide +kernel⟩, List.mem_of_getElem? (i := 2410) (by decide +kernel), List.mem_of_getElem? (i := 3503) (by decide +kernel), List.mem_of_getElem? (i := 3504) (by decide +kernel)⟩
theorem lw_p188 : lw_okq (⟨"LanternserverModel", "saysLineEnd", "()V"⟩, 96) := ⟨⟨by decide +kernel, by decide +kernel⟩, List.mem_of_getElem? (i := 2410) (by decide +kernel), List.mem_of_getElem? (i := 3507) (by decide +kernel), List.mem_of_getElem? (i := 3508) (by decide +kernel)⟩
theorem lw_p189 : lw_okq (⟨"LanternserverModel", "saysPart", "(I)V"⟩, 96) := ⟨⟨by decide +kernel, by decide +kernel⟩, List.mem_of_getElem? (i := 2410) (by decide +kernel), List.mem_of_getElem? (i := 3511) (by decide +kernel), List.mem_of_getElem? (i := 3512) (by decide +kernel)⟩
theorem lw_p190 : lw_okq (⟨"LanternserverModel", "saysList", "(I)V"⟩, 96) := ⟨⟨by decide +kernel, by decide +kernel⟩, List.mem_of_getElem? (i := 2410) (by decide +kernel), List.mem_of_getElem? (i := 3515) (by decide +kernel), List.mem_of_getElem? (i := 3516) (by decide +kernel)⟩
theorem lw_p191 : lw_okq (⟨"LanternserverModel", "hasEnded", "(I)Z"⟩, 96) := ⟨⟨by decide +kernel, by decide +kernel⟩, List.mem_of_getElem? (i := 2410) (by decide +kernel), List.mem_of_getElem? (i := 3519) (by decide +kernel), List.mem_of_getElem? (i := 3520) (by decide +kernel)⟩
def lw_privs_12 : List (MethodName × Nat) := [(⟨"LanternserverModel", "fitsTag", "(II)Z"⟩, 96), (⟨"LanternserverModel", "newFile", "(II)I"⟩, 96), (⟨"LanternserverModel", "copiesFile", "(II)V"⟩, 96), (⟨"LanternserverModel", "putsBody", "(III)V"⟩, 96), (⟨"LanternserverModel", "range", "(II)I"⟩, 96), (⟨"LanternserverModel", "dropsFile", "(II)V"⟩, 96), (⟨"LanternserverModel", "answers", "(IIIZZ)V"⟩, 96), (⟨"LanternserverModel", "wordOf", "(I)I"⟩, 96), (⟨"LanternserverModel", "listLong", "(I)I"⟩, 96), (⟨"LanternserverModel", "saysText", "(I)V"⟩, 96), (⟨"LanternserverModel", "says", "(I)V"⟩, 96), (⟨"LanternserverModel", "saysNumber", "(I)V"⟩, 96), (⟨"LanternserverModel", "saysLineEnd", "()V"⟩, 96), (⟨"LanternserverModel", "saysPart", "(I)V"⟩, 96), (⟨"LanternserverModel", "saysList", "(I)V"⟩, 96), (⟨"LanternserverModel", "hasEnded", "(I)Z"⟩, 96)]
theorem lw_r12 : ∀ q ∈ lw_privs_12, lw_okq q := List.forall_mem_cons.mpr ⟨lw_p176, List.forall_mem_cons.mpr ⟨lw_p177, List.forall_mem_cons.mpr ⟨lw_p178, List.forall_mem_cons.mpr ⟨lw_p179, List.forall_mem_cons.mpr ⟨lw_p180, List.forall_mem_cons.mpr ⟨lw_p181, List.forall_mem_cons.mpr ⟨lw_p182, List.forall_mem_cons.mpr ⟨lw_p183, List.forall_mem_cons.mpr ⟨lw_p184, List.forall_mem_cons.mpr ⟨lw_p185, List.forall_mem_cons.mpr ⟨lw_p186, List.forall_mem_cons.mpr ⟨lw_p187, List.forall_mem_cons.mpr ⟨lw_p188, List.forall_mem_cons.mpr ⟨lw_p189, List.forall_mem_cons.mpr ⟨lw_p190, List.forall_mem_cons.mpr ⟨lw_p191, fun _ h => absurd h List.not_mem_nil⟩⟩⟩⟩⟩⟩⟩⟩⟩⟩⟩⟩⟩⟩⟩⟩
theorem lw_p192 : lw_okq (⟨"LanternserverModel", "comesToNone", "(IIIII)V"⟩, 96) := ⟨⟨by decide +kernel, by decide +kernel⟩, List.mem_of_getElem? (i := 2410) (by decide +kernel), List.mem_of_getElem? (i := 3527) (by decide +kernel), List.mem_of_getElem? (i := 3528) (by decide +kernel)⟩
theorem lw_p193 : lw_okq (⟨"LanternserverModel", "openOfServer", "()I"⟩, 96) := ⟨⟨by decide +kernel, by decide +kernel⟩, List.mem_of_getElem? (i := 2410) (by decide +kernel), List.mem_of_getElem? (i := 3531) (by decide +kernel), List.mem_of_getElem? (i := 3532) (by decide +kernel)⟩
theorem lw_p194 : lw_okq (⟨"LanternserverModel", "beginner", "(LLanternserverModel$Line;)I"⟩, 96) := ⟨⟨by decide +kernel, by decide +kernel⟩, List.mem_of_getElem? (i := 2410) (by decide +kernel), List.mem_of_getElem? (i := 3703) (by decide +kernel), List.mem_of_getElem? (i := 3704) (by decide +kernel)⟩
theorem lw_p195 : lw_okq (⟨"LanternserverModel", "isLine", "(I)Z"⟩, 96) := ⟨⟨by decide +kernel, by decide +kernel⟩, List.mem_of_getElem? (i := 2410) (by decide +kernel), List.mem_of_getElem? (i := 3708) (by decide +kernel), List.mem_of_getElem? (i := 3709) (by decide +kernel)⟩
theorem lw_p196 : lw_okq (⟨"LanternserverModel", "puts", "(III[IIIZ)V"⟩, 96) := ⟨⟨by decide +kernel, by decide +kernel⟩, List.mem_of_getElem? (i := 2410) (by decide +kernel), List.mem_of_getElem? (i := 3712) (by decide +kernel), List.mem_of_getElem? (i := 3713) (by decide +kernel)⟩
theorem lw_p197 : lw_okq (⟨"LanternserverModel", "fine", "(ZZZ)Z"⟩, 96) := ⟨⟨by decide +kernel, by decide +kernel⟩, List.mem_of_getElem? (i := 2410) (by decide +kernel), List.mem_of_getElem? (i := 3783) (by decide +kernel), List.mem_of_getElem? (i := 3784) (by decide +kernel)⟩
theorem lw_p198 : lw_okq (⟨"LanternserverModel", "nameOnTape", "()[I"⟩, 96) := ⟨⟨by decide +kernel, by decide +kernel⟩, List.mem_of_getElem? (i := 2410) (by decide +kernel), List.mem_of_getElem? (i := 3798) (by decide +kernel), List.mem_of_getElem? (i := 3799) (by decide +kernel)⟩
theorem lw_p199 : lw_okq (⟨"LanternserverModel", "asks", "(I)V"⟩, 96) := ⟨⟨by decide +kernel, by decide +kernel⟩, List.mem_of_getElem? (i := 2410) (by decide +kernel), List.mem_of_getElem? (i := 3812) (by decide +kernel), List.mem_of_getElem? (i := 3813) (by decide +kernel)⟩
theorem lw_p200 : lw_okq (⟨"LanternserverModel", "tick", "()V"⟩, 96) := ⟨⟨by decide +kernel, by decide +kernel⟩, List.mem_of_getElem? (i := 2410) (by decide +kernel), List.mem_of_getElem? (i := 3829) (by decide +kernel), List.mem_of_getElem? (i := 3830) (by decide +kernel)⟩
theorem lw_p201 : lw_okq (⟨"LanternserverModel", "connectionsTick", "(I)V"⟩, 96) := ⟨⟨by decide +kernel, by decide +kernel⟩, List.mem_of_getElem? (i := 2410) (by decide +kernel), List.mem_of_getElem? (i := 3833) (by decide +kernel), List.mem_of_getElem? (i := 3834) (by decide +kernel)⟩
theorem lw_p202 : lw_okq (⟨"LanternserverModel", "isOver", "(LLanternserverModel$Line;)V"⟩, 96) := ⟨⟨by decide +kernel, by decide +kernel⟩, List.mem_of_getElem? (i := 2410) (by decide +kernel), List.mem_of_getElem? (i := 3842) (by decide +kernel), List.mem_of_getElem? (i := 3843) (by decide +kernel)⟩
theorem lw_p203 : lw_okq (⟨"LanternserverModel", "aborts", "(LLanternserverModel$Line;)V"⟩, 96) := ⟨⟨by decide +kernel, by decide +kernel⟩, List.mem_of_getElem? (i := 2410) (by decide +kernel), List.mem_of_getElem? (i := 3846) (by decide +kernel), List.mem_of_getElem? (i := 3847) (by decide +kernel)⟩
theorem lw_p204 : lw_okq (⟨"LanternserverModel", "doesATimerRun", "()Z"⟩, 96) := ⟨⟨by decide +kernel, by decide +kernel⟩, List.mem_of_getElem? (i := 2410) (by decide +kernel), List.mem_of_getElem? (i := 3854) (by decide +kernel), List.mem_of_getElem? (i := 3855) (by decide +kernel)⟩
theorem lw_p205 : lw_okq (⟨"LanternserverModel", "draw", "(I)I"⟩, 96) := ⟨⟨by decide +kernel, by decide +kernel⟩, List.mem_of_getElem? (i := 2410) (by decide +kernel), List.mem_of_getElem? (i := 3863) (by decide +kernel), List.mem_of_getElem? (i := 3864) (by decide +kernel)⟩
theorem lw_p206 : lw_okq (⟨"LanternserverModel", "canWrite", "(LLanternserverModel$Line;)Z"⟩, 96) := ⟨⟨by decide +kernel, by decide +kernel⟩, List.mem_of_getElem? (i := 2410) (by decide +kernel), List.mem_of_getElem? (i := 3880) (by decide +kernel), List.mem_of_getElem? (i := 3881) (by decide +kernel)⟩
theorem lw_p207 : lw_okq (⟨"LanternserverModel", "countOfLines", "(I)I"⟩, 96) := ⟨⟨by decide +kernel, by decide +kernel⟩, List.mem_of_getElem? (i := 2410) (by decide +kernel), List.mem_of_getElem? (i := 3935) (by decide +kernel), List.mem_of_getElem? (i := 3936) (by decide +kernel)⟩
def lw_privs_13 : List (MethodName × Nat) := [(⟨"LanternserverModel", "comesToNone", "(IIIII)V"⟩, 96), (⟨"LanternserverModel", "openOfServer", "()I"⟩, 96), (⟨"LanternserverModel", "beginner", "(LLanternserverModel$Line;)I"⟩, 96), (⟨"LanternserverModel", "isLine", "(I)Z"⟩, 96), (⟨"LanternserverModel", "puts", "(III[IIIZ)V"⟩, 96), (⟨"LanternserverModel", "fine", "(ZZZ)Z"⟩, 96), (⟨"LanternserverModel", "nameOnTape", "()[I"⟩, 96), (⟨"LanternserverModel", "asks", "(I)V"⟩, 96), (⟨"LanternserverModel", "tick", "()V"⟩, 96), (⟨"LanternserverModel", "connectionsTick", "(I)V"⟩, 96), (⟨"LanternserverModel", "isOver", "(LLanternserverModel$Line;)V"⟩, 96), (⟨"LanternserverModel", "aborts", "(LLanternserverModel$Line;)V"⟩, 96), (⟨"LanternserverModel", "doesATimerRun", "()Z"⟩, 96), (⟨"LanternserverModel", "draw", "(I)I"⟩, 96), (⟨"LanternserverModel", "canWrite", "(LLanternserverModel$Line;)Z"⟩, 96), (⟨"LanternserverModel", "countOfLines", "(I)I"⟩, 96)]
theorem lw_r13 : ∀ q ∈ lw_privs_13, lw_okq q := List.forall_mem_cons.mpr ⟨lw_p192, List.forall_mem_cons.mpr ⟨lw_p193, List.forall_mem_cons.mpr ⟨lw_p194, List.forall_mem_cons.mpr ⟨lw_p195, List.forall_mem_cons.mpr ⟨lw_p196, List.forall_mem_cons.mpr ⟨lw_p197, List.forall_mem_cons.mpr ⟨lw_p198, List.forall_mem_cons.mpr ⟨lw_p199, List.forall_mem_cons.mpr ⟨lw_p200, List.forall_mem_cons.mpr ⟨lw_p201, List.forall_mem_cons.mpr ⟨lw_p202, List.forall_mem_cons.mpr ⟨lw_p203, List.forall_mem_cons.mpr ⟨lw_p204, List.forall_mem_cons.mpr ⟨lw_p205, List.forall_mem_cons.mpr ⟨lw_p206, List.forall_mem_cons.mpr ⟨lw_p207, fun _ h => absurd h List.not_mem_nil⟩⟩⟩⟩⟩⟩⟩⟩⟩⟩⟩⟩⟩⟩⟩⟩
theorem lw_p208 : lw_okq (⟨"LanternserverModel", "servedWell", "()I"⟩, 96) := ⟨⟨by decide +kernel, by decide +kernel⟩, List.mem_of_getElem? (i := 2410) (by decide +kernel), List.mem_of_getElem? (i := 3939) (by decide +kernel), List.mem_of_getElem? (i := 3940) (by decide +kernel)⟩
theorem lw_p209 : lw_okq (⟨"LanternserverModel", "isSameRequest", "(I)Z"⟩, 96) := ⟨⟨by decide +kernel, by decide +kernel⟩, List.mem_of_getElem? (i := 2410) (by decide +kernel), List.mem_of_getElem? (i := 3951) (by decide +kernel), List.mem_of_getElem? (i := 3952) (by decide +kernel)⟩
theorem lw_p210 : lw_okq (⟨"LanternserverModel", "otherEnd", "(I)I"⟩, 96) := ⟨⟨by decide +kernel, by decide +kernel⟩, List.mem_of_getElem? (i := 2410) (by decide +kernel), List.mem_of_getElem? (i := 3955) (by decide +kernel), List.mem_of_getElem? (i := 3956) (by decide +kernel)⟩
theorem lw_p211 : lw_okq (⟨"LanternserverModel", "writtenMany", "(I)I"⟩, 96) := ⟨⟨by decide +kernel, by decide +kernel⟩, List.mem_of_getElem? (i := 2410) (by decide +kernel), List.mem_of_getElem? (i := 3959) (by decide +kernel), List.mem_of_getElem? (i := 3960) (by decide +kernel)⟩
theorem lw_p212 : lw_okq (⟨"LanternserverModel", "writtenAt", "(II)I"⟩, 96) := ⟨⟨by decide +kernel, by decide +kernel⟩, List.mem_of_getElem? (i := 2410) (by decide +kernel), List.mem_of_getElem? (i := 3963) (by decide +kernel), List.mem_of_getElem? (i := 3964) (by decide +kernel)⟩
theorem lw_p213 : lw_okq (⟨"LanternserverModel", "isReadAsAnswered", "(II)Z"⟩, 96) := ⟨⟨by decide +kernel, by decide +kernel⟩, List.mem_of_getElem? (i := 2410) (by decide +kernel), List.mem_of_getElem? (i := 3967) (by decide +kernel), List.mem_of_getElem? (i := 3968) (by decide +kernel)⟩
theorem lw_p214 : lw_okq (⟨"LanternserverModel", "readMany", "(I)I"⟩, 96) := ⟨⟨by decide +kernel, by decide +kernel⟩, List.mem_of_getElem? (i := 2410) (by decide +kernel), List.mem_of_getElem? (i := 3971) (by decide +kernel), List.mem_of_getElem? (i := 3972) (by decide +kernel)⟩
theorem lw_p215 : lw_okq (⟨"LanternserverModel", "readByte", "(II)I"⟩, 96) := ⟨⟨by decide +kernel, by decide +kernel⟩, List.mem_of_getElem? (i := 2410) (by decide +kernel), List.mem_of_getElem? (i := 3975) (by decide +kernel), List.mem_of_getElem? (i := 3976) (by decide +kernel)⟩
theorem lw_p216 : lw_okq (⟨"LanternserverModel", "hostOfLine", "(I)I"⟩, 96) := ⟨⟨by decide +kernel, by decide +kernel⟩, List.mem_of_getElem? (i := 2410) (by decide +kernel), List.mem_of_getElem? (i := 3979) (by decide +kernel), List.mem_of_getElem? (i := 3980) (by decide +kernel)⟩
theorem lw_p217 : lw_okq (⟨"LanternserverModel", "areFilesAlike", "()Z"⟩, 96) := ⟨⟨by decide +kernel, by decide +kernel⟩, List.mem_of_getElem? (i := 2410) (by decide +kernel), List.mem_of_getElem? (i := 3983) (by decide +kernel), List.mem_of_getElem? (i := 3984) (by decide +kernel)⟩
theorem lw_p218 : lw_okq (⟨"LanternserverModel", "fits", "([IZ)Z"⟩, 96) := ⟨⟨by decide +kernel, by decide +kernel⟩, List.mem_of_getElem? (i := 2410) (by decide +kernel), List.mem_of_getElem? (i := 3995) (by decide +kernel), List.mem_of_getElem? (i := 3996) (by decide +kernel)⟩
theorem lw_p219 : lw_okq (⟨"LanternserverModel", "lineErrors", "()I"⟩, 96) := ⟨⟨by decide +kernel, by decide +kernel⟩, List.mem_of_getElem? (i := 2410) (by decide +kernel), List.mem_of_getElem? (i := 3999) (by decide +kernel), List.mem_of_getElem? (i := 4000) (by decide +kernel)⟩
def lw_privs_14 : List (MethodName × Nat) := [(⟨"LanternserverModel", "servedWell", "()I"⟩, 96), (⟨"LanternserverModel", "isSameRequest", "(I)Z"⟩, 96), (⟨"LanternserverModel", "otherEnd", "(I)I"⟩, 96), (⟨"LanternserverModel", "writtenMany", "(I)I"⟩, 96), (⟨"LanternserverModel", "writtenAt", "(II)I"⟩, 96), (⟨"LanternserverModel", "isReadAsAnswered", "(II)Z"⟩, 96), (⟨"LanternserverModel", "readMany", "(I)I"⟩, 96), (⟨"LanternserverModel", "readByte", "(II)I"⟩, 96), (⟨"LanternserverModel", "hostOfLine", "(I)I"⟩, 96), (⟨"LanternserverModel", "areFilesAlike", "()Z"⟩, 96), (⟨"LanternserverModel", "fits", "([IZ)Z"⟩, 96), (⟨"LanternserverModel", "lineErrors", "()I"⟩, 96)]
theorem lw_r14 : ∀ q ∈ lw_privs_14, lw_okq q := List.forall_mem_cons.mpr ⟨lw_p208, List.forall_mem_cons.mpr ⟨lw_p209, List.forall_mem_cons.mpr ⟨lw_p210, List.forall_mem_cons.mpr ⟨lw_p211, List.forall_mem_cons.mpr ⟨lw_p212, List.forall_mem_cons.mpr ⟨lw_p213, List.forall_mem_cons.mpr ⟨lw_p214, List.forall_mem_cons.mpr ⟨lw_p215, List.forall_mem_cons.mpr ⟨lw_p216, List.forall_mem_cons.mpr ⟨lw_p217, List.forall_mem_cons.mpr ⟨lw_p218, List.forall_mem_cons.mpr ⟨lw_p219, fun _ h => absurd h List.not_mem_nil⟩⟩⟩⟩⟩⟩⟩⟩⟩⟩⟩⟩
def lw_privs : List (MethodName × Nat) := lw_privs_1 ++ (lw_privs_2 ++ (lw_privs_3 ++ (lw_privs_4 ++ (lw_privs_5 ++ (lw_privs_6 ++ (lw_privs_7 ++ (lw_privs_8 ++ (lw_privs_9 ++ (lw_privs_10 ++ (lw_privs_11 ++ (lw_privs_12 ++ (lw_privs_13 ++ (lw_privs_14)))))))))))))
def lw_tbl : List Cond := k2_sels lw_privs ++ tables_1
theorem lw_privs_ok : ∀ q ∈ lw_privs, lw_okq q := by
  show ∀ q ∈ lw_privs_1 ++ (lw_privs_2 ++ (lw_privs_3 ++ (lw_privs_4 ++ (lw_privs_5 ++ (lw_privs_6 ++ (lw_privs_7 ++ (lw_privs_8 ++ (lw_privs_9 ++ (lw_privs_10 ++ (lw_privs_11 ++ (lw_privs_12 ++ (lw_privs_13 ++ (lw_privs_14))))))))))))), lw_okq q
  exact List.forall_mem_append.mpr ⟨lw_r1, List.forall_mem_append.mpr ⟨lw_r2, List.forall_mem_append.mpr ⟨lw_r3, List.forall_mem_append.mpr ⟨lw_r4, List.forall_mem_append.mpr ⟨lw_r5, List.forall_mem_append.mpr ⟨lw_r6, List.forall_mem_append.mpr ⟨lw_r7, List.forall_mem_append.mpr ⟨lw_r8, List.forall_mem_append.mpr ⟨lw_r9, List.forall_mem_append.mpr ⟨lw_r10, List.forall_mem_append.mpr ⟨lw_r11, List.forall_mem_append.mpr ⟨lw_r12, List.forall_mem_append.mpr ⟨lw_r13, lw_r14⟩⟩⟩⟩⟩⟩⟩⟩⟩⟩⟩⟩⟩
/-- the streams that the claim lets the run draw from -/
abbrev lw_cs : List Choice := [Jvm.Choice.named "NaN.bits"]
theorem lw_bits : nanBits ∈ lw_cs := by first | decide | exact List.mem_cons_self | simp [lw_cs, nanBits]
-- ===== end of PART A; then your names; then what follows =====
-- names, fields and types of the classes; a code and a name for each method
def RX0 : String := "Lanternserver$Connection"
def TX0 : u_T := fun k => match k with
  | 0 => ("Lanternserver$Connection", "number", "I", true)
  | 1 => ("Lanternserver$Connection", "host", "I", true)
  | 2 => ("Lanternserver$Connection", "port", "I", true)
  | 3 => ("Lanternserver$Connection", "otherAddress", "I", true)
  | 4 => ("Lanternserver$Connection", "otherPort", "I", true)
  | 5 => ("Lanternserver$Connection", "wire", "LLanternserver$Wire;", true)
  | 6 => ("Lanternserver$Connection", "sender", "LLanternserver$Sender;", true)
  | 7 => ("Lanternserver$Connection", "receiver", "LLanternserver$Receiver;", true)
  | 8 => ("Lanternserver$Connection", "reader", "LLanternserver$Reader;", true)
  | 9 => ("Lanternserver$Connection", "ownMss", "I", true)
  | 10 => ("Lanternserver$Connection", "mss", "I", false)
  | 11 => ("Lanternserver$Connection", "state", "I", false)
  | 12 => ("Lanternserver$Connection", "ended", "I", false)
  | 13 => ("Lanternserver$Connection", "other", "I", false)
  | 14 => ("Lanternserver$Connection", "isClosed", "Z", false)
  | 15 => ("Lanternserver$Connection", "isLast", "Z", false)
  | 16 => ("Lanternserver$Connection", "requests", "I", false)
  | 17 => ("Lanternserver$Connection", "cameAt", "I", false)
  | _ => ("Lanternserver$Connection", "waitFrom", "I", false)
def tyX0 : Nat → FieldType := fun k => match k with
  | 0 => .int
  | 1 => .int
  | 2 => .int
  | 3 => .int
  | 4 => .int
  | 5 => .object "Lanternserver$Wire"
  | 6 => .object "Lanternserver$Sender"
  | 7 => .object "Lanternserver$Receiver"
  | 8 => .object "Lanternserver$Reader"
  | 9 => .int
  | 10 => .int
  | 11 => .int
  | 12 => .int
  | 13 => .int
  | 14 => .boolean
  | 15 => .boolean
  | 16 => .int
  | 17 => .int
  | _ => .int
theorem nmX0 : ∀ a, a < 19 → ∀ b, b < 19 → a ≠ b → (TX0 a).2.1 ≠ (TX0 b).2.1 := by decide +kernel
theorem tyX0_ok : ∀ k, k < 19 → parseFieldDescriptor (TX0 k).2.2.1 = some (tyX0 k) := by decide +kernel
abbrev cX0_init : ByteArray := prog_2_method_1_code
def yX0_init : MethodName := ⟨RX0, "<init>", "(ILLanternserver$Host;IILLanternserver$Wire;)V"⟩
abbrev cX0_isServers : ByteArray := prog_2_method_2_code
def yX0_isServers : MethodName := ⟨RX0, "isServers", "()Z"⟩
abbrev cX0_isToBeClosed : ByteArray := prog_2_method_3_code
def yX0_isToBeClosed : MethodName := ⟨RX0, "isToBeClosed", "()Z"⟩
abbrev cX0_isSending : ByteArray := prog_2_method_4_code
def yX0_isSending : MethodName := ⟨RX0, "isSending", "()Z"⟩
abbrev cX0_isTimed : ByteArray := prog_2_method_5_code
def yX0_isTimed : MethodName := ⟨RX0, "isTimed", "()Z"⟩
abbrev cX0_beginAsClient : ByteArray := prog_2_method_6_code
def yX0_beginAsClient : MethodName := ⟨RX0, "beginAsClient", "()V"⟩
abbrev cX0_beginAsServer : ByteArray := prog_2_method_7_code
def yX0_beginAsServer : MethodName := ⟨RX0, "beginAsServer", "(LLanternserver$Segment;)V"⟩
abbrev cX0_finish : ByteArray := prog_2_method_8_code
def yX0_finish : MethodName := ⟨RX0, "finish", "()V"⟩
abbrev cX0_giveUpAtOnce : ByteArray := prog_2_method_9_code
def yX0_giveUpAtOnce : MethodName := ⟨RX0, "giveUpAtOnce", "()V"⟩
abbrev cX0_end : ByteArray := prog_2_method_10_code
def yX0_end : MethodName := ⟨RX0, "end", "(I)V"⟩
abbrev cX0_emit : ByteArray := prog_2_method_11_code
def yX0_emit : MethodName := ⟨RX0, "emit", "(IIII)V"⟩
abbrev cX0_flagsOf : ByteArray := prog_2_method_12_code
def yX0_flagsOf : MethodName := ⟨RX0, "flagsOf", "(I)I"⟩
abbrev cX0_sendNew : ByteArray := prog_2_method_13_code
def yX0_sendNew : MethodName := ⟨RX0, "sendNew", "(II)V"⟩
abbrev cX0_transmit : ByteArray := prog_2_method_14_code
def yX0_transmit : MethodName := ⟨RX0, "transmit", "()V"⟩
abbrev cX0_noteProbing : ByteArray := prog_2_method_15_code
def yX0_noteProbing : MethodName := ⟨RX0, "noteProbing", "()V"⟩
abbrev cX0_sendAgain : ByteArray := prog_2_method_16_code
def yX0_sendAgain : MethodName := ⟨RX0, "sendAgain", "()V"⟩
abbrev cX0_age : ByteArray := prog_2_method_17_code
def yX0_age : MethodName := ⟨RX0, "age", "()V"⟩
abbrev cX0_runOut : ByteArray := prog_2_method_18_code
def yX0_runOut : MethodName := ⟨RX0, "runOut", "()V"⟩
abbrev cX0_arrive : ByteArray := prog_2_method_19_code
def yX0_arrive : MethodName := ⟨RX0, "arrive", "(LLanternserver$Segment;)Z"⟩
abbrev cX0_arriveAsked : ByteArray := prog_2_method_20_code
def yX0_arriveAsked : MethodName := ⟨RX0, "arriveAsked", "(LLanternserver$Segment;)Z"⟩
abbrev cX0_establish : ByteArray := prog_2_method_21_code
def yX0_establish : MethodName := ⟨RX0, "establish", "(LLanternserver$Segment;)V"⟩
abbrev cX0_isThirdDouble : ByteArray := prog_2_method_22_code
def yX0_isThirdDouble : MethodName := ⟨RX0, "isThirdDouble", "(LLanternserver$Segment;)Z"⟩
abbrev cX0_isEndedByAcknowledgement : ByteArray := prog_2_method_23_code
def yX0_isEndedByAcknowledgement : MethodName := ⟨RX0, "isEndedByAcknowledgement", "()Z"⟩
abbrev cX0_waitOut : ByteArray := prog_2_method_24_code
def yX0_waitOut : MethodName := ⟨RX0, "waitOut", "()V"⟩
abbrev cX0_takeIn : ByteArray := prog_2_method_25_code
def yX0_takeIn : MethodName := ⟨RX0, "takeIn", "(LLanternserver$Segment;)V"⟩
abbrev cX0_takeWritten : ByteArray := prog_2_method_26_code
def yX0_takeWritten : MethodName := ⟨RX0, "takeWritten", "(LLanternserver$Row;)I"⟩
abbrev cX0_hasRest : ByteArray := prog_2_method_27_code
def yX0_hasRest : MethodName := ⟨RX0, "hasRest", "()Z"⟩
abbrev cX0_writeRest : ByteArray := prog_2_method_28_code
def yX0_writeRest : MethodName := ⟨RX0, "writeRest", "()V"⟩
abbrev cX0_takeUnread : ByteArray := prog_2_method_29_code
def yX0_takeUnread : MethodName := ⟨RX0, "takeUnread", "(I)I"⟩
abbrev cX0_isEndTold : ByteArray := prog_2_method_30_code
def yX0_isEndTold : MethodName := ⟨RX0, "isEndTold", "()Z"⟩
abbrev cX0_tell : ByteArray := prog_2_method_31_code
def yX0_tell : MethodName := ⟨RX0, "tell", "(I)I"⟩
def RX1 : String := "Lanternserver$Datagram"
def TX1 : u_T := fun k => match k with
  | 0 => ("Lanternserver$Datagram", "from", "I", false)
  | 1 => ("Lanternserver$Datagram", "sender", "I", false)
  | 2 => ("Lanternserver$Datagram", "receiver", "I", false)
  | 3 => ("Lanternserver$Datagram", "protocol", "I", false)
  | 4 => ("Lanternserver$Datagram", "identification", "I", false)
  | 5 => ("Lanternserver$Datagram", "mtu", "I", false)
  | 6 => ("Lanternserver$Datagram", "time", "I", false)
  | 7 => ("Lanternserver$Datagram", "end", "I", false)
  | 8 => ("Lanternserver$Datagram", "isSpoilt", "Z", false)
  | 9 => ("Lanternserver$Datagram", "bytes", "LLanternserver$Row;", true)
  | _ => ("Lanternserver$Datagram", "present", "LLanternserver$Row;", true)
def tyX1 : Nat → FieldType := fun k => match k with
  | 0 => .int
  | 1 => .int
  | 2 => .int
  | 3 => .int
  | 4 => .int
  | 5 => .int
  | 6 => .int
  | 7 => .int
  | 8 => .boolean
  | 9 => .object "Lanternserver$Row"
  | _ => .object "Lanternserver$Row"
theorem nmX1 : ∀ a, a < 11 → ∀ b, b < 11 → a ≠ b → (TX1 a).2.1 ≠ (TX1 b).2.1 := by decide +kernel
theorem tyX1_ok : ∀ k, k < 11 → parseFieldDescriptor (TX1 k).2.2.1 = some (tyX1 k) := by decide +kernel
abbrev cX1_init : ByteArray := prog_3_method_1_code
def yX1_init : MethodName := ⟨RX1, "<init>", "()V"⟩
abbrev cX1_begin : ByteArray := prog_3_method_2_code
def yX1_begin : MethodName := ⟨RX1, "begin", "(III)V"⟩
abbrev cX1_copyOf : ByteArray := prog_3_method_3_code
def yX1_copyOf : MethodName := ⟨RX1, "copyOf", "(LLanternserver$Datagram;)V"⟩
abbrev cX1_headSum : ByteArray := prog_3_method_4_code
def yX1_headSum : MethodName := ⟨RX1, "headSum", "()I"⟩
abbrev cX1_closeNames : ByteArray := prog_3_method_5_code
def yX1_closeNames : MethodName := ⟨RX1, "closeNames", "()V"⟩
abbrev cX1_closeSegment : ByteArray := prog_3_method_6_code
def yX1_closeSegment : MethodName := ⟨RX1, "closeSegment", "()V"⟩
abbrev cX1_putPiece : ByteArray := prog_3_method_7_code
def yX1_putPiece : MethodName := ⟨RX1, "putPiece", "(LLanternserver$Row;III)V"⟩
abbrev cX1_isWhole : ByteArray := prog_3_method_8_code
def yX1_isWhole : MethodName := ⟨RX1, "isWhole", "()Z"⟩
def RX2 : String := "Lanternserver$Frame"
def TX2 : u_T := fun k => match k with
  | 0 => ("Lanternserver$Frame", "bytes", "LLanternserver$Row;", true)
  | 1 => ("Lanternserver$Frame", "sender", "I", false)
  | 2 => ("Lanternserver$Frame", "isSpoilt", "Z", false)
  | 3 => ("Lanternserver$Frame", "isPiece", "Z", false)
  | _ => ("Lanternserver$Frame", "spoiltAt", "I", false)
def tyX2 : Nat → FieldType := fun k => match k with
  | 0 => .object "Lanternserver$Row"
  | 1 => .int
  | 2 => .boolean
  | 3 => .boolean
  | _ => .int
theorem nmX2 : ∀ a, a < 5 → ∀ b, b < 5 → a ≠ b → (TX2 a).2.1 ≠ (TX2 b).2.1 := by decide +kernel
theorem tyX2_ok : ∀ k, k < 5 → parseFieldDescriptor (TX2 k).2.2.1 = some (tyX2 k) := by decide +kernel
abbrev cX2_init : ByteArray := prog_4_method_1_code
def yX2_init : MethodName := ⟨RX2, "<init>", "()V"⟩
def RX3 : String := "Lanternserver$Host"
def TX3 : u_T := fun k => match k with
  | 0 => ("Lanternserver$Host", "number", "I", true)
  | 1 => ("Lanternserver$Host", "mtu", "I", false)
  | 2 => ("Lanternserver$Host", "mss", "I", true)
  | 3 => ("Lanternserver$Host", "ownName", "LLanternserver$Row;", true)
  | 4 => ("Lanternserver$Host", "addresses", "[I", false)
  | 5 => ("Lanternserver$Host", "hardwares", "[J", false)
  | 6 => ("Lanternserver$Host", "learnedAt", "[I", false)
  | 7 => ("Lanternserver$Host", "known", "I", false)
  | 8 => ("Lanternserver$Host", "askedAt", "[I", true)
  | 9 => ("Lanternserver$Host", "waiting", "[LLanternserver$Datagram;", true)
  | 10 => ("Lanternserver$Host", "waitingMany", "I", false)
  | 11 => ("Lanternserver$Host", "kept", "[LLanternserver$Datagram;", true)
  | 12 => ("Lanternserver$Host", "keptMany", "I", false)
  | 13 => ("Lanternserver$Host", "counted", "I", false)
  | 14 => ("Lanternserver$Host", "taken", "I", false)
  | _ => ("Lanternserver$Host", "refused", "I", false)
def tyX3 : Nat → FieldType := fun k => match k with
  | 0 => .int
  | 1 => .int
  | 2 => .int
  | 3 => .object "Lanternserver$Row"
  | 4 => .array .int
  | 5 => .array .long
  | 6 => .array .int
  | 7 => .int
  | 8 => .array .int
  | 9 => .array (.object "Lanternserver$Datagram")
  | 10 => .int
  | 11 => .array (.object "Lanternserver$Datagram")
  | 12 => .int
  | 13 => .int
  | 14 => .int
  | _ => .int
theorem nmX3 : ∀ a, a < 16 → ∀ b, b < 16 → a ≠ b → (TX3 a).2.1 ≠ (TX3 b).2.1 := by decide +kernel
theorem tyX3_ok : ∀ k, k < 16 → parseFieldDescriptor (TX3 k).2.2.1 = some (tyX3 k) := by decide +kernel
abbrev cX3_init : ByteArray := prog_5_method_1_code
def yX3_init : MethodName := ⟨RX3, "<init>", "(III)V"⟩
abbrev cX3_placeOf : ByteArray := prog_5_method_2_code
def yX3_placeOf : MethodName := ⟨RX3, "placeOf", "(I)I"⟩
abbrev cX3_hardwareAt : ByteArray := prog_5_method_3_code
def yX3_hardwareAt : MethodName := ⟨RX3, "hardwareAt", "(I)J"⟩
abbrev cX3_learn : ByteArray := prog_5_method_4_code
def yX3_learn : MethodName := ⟨RX3, "learn", "(IIJI)V"⟩
abbrev cX3_dropOld : ByteArray := prog_5_method_5_code
def yX3_dropOld : MethodName := ⟨RX3, "dropOld", "(I)V"⟩
abbrev cX3_post : ByteArray := prog_5_method_6_code
def yX3_post : MethodName := ⟨RX3, "post", "(LLanternserver$Datagram;LLanternserver$Wire;)V"⟩
abbrev cX3_ask : ByteArray := prog_5_method_7_code
def yX3_ask : MethodName := ⟨RX3, "ask", "(ILLanternserver$Wire;)V"⟩
abbrev cX3_sendMessage : ByteArray := prog_5_method_8_code
def yX3_sendMessage : MethodName := ⟨RX3, "sendMessage", "(LLanternserver$Wire;IJJI)V"⟩
abbrev cX3_sendPieces : ByteArray := prog_5_method_9_code
def yX3_sendPieces : MethodName := ⟨RX3, "sendPieces", "(LLanternserver$Datagram;JLLanternserver$Wire;)V"⟩
abbrev cX3_sendPart : ByteArray := prog_5_method_10_code
def yX3_sendPart : MethodName := ⟨RX3, "sendPart", "(LLanternserver$Wire;LLanternserver$Datagram;JII)V"⟩
abbrev cX3_dropWaiting : ByteArray := prog_5_method_11_code
def yX3_dropWaiting : MethodName := ⟨RX3, "dropWaiting", "(I)V"⟩
abbrev cX3_sendLearned : ByteArray := prog_5_method_12_code
def yX3_sendLearned : MethodName := ⟨RX3, "sendLearned", "(LLanternserver$Frame;LLanternserver$Wire;)V"⟩
abbrev cX3_takeFrame : ByteArray := prog_5_method_13_code
def yX3_takeFrame : MethodName := ⟨RX3, "takeFrame", "(LLanternserver$Frame;ILLanternserver$Datagram;)I"⟩
abbrev cX3_isMessage : ByteArray := prog_5_method_14_code
def yX3_isMessage : MethodName := ⟨RX3, "isMessage", "(LLanternserver$Row;)Z"⟩
abbrev cX3_takeMessage : ByteArray := prog_5_method_15_code
def yX3_takeMessage : MethodName := ⟨RX3, "takeMessage", "(LLanternserver$Row;I)V"⟩
abbrev cX3_isDatagram : ByteArray := prog_5_method_16_code
def yX3_isDatagram : MethodName := ⟨RX3, "isDatagram", "(LLanternserver$Row;)Z"⟩
abbrev cX3_takeDatagram : ByteArray := prog_5_method_17_code
def yX3_takeDatagram : MethodName := ⟨RX3, "takeDatagram", "(LLanternserver$Row;ILLanternserver$Datagram;)Z"⟩
abbrev cX3_keptPlace : ByteArray := prog_5_method_18_code
def yX3_keptPlace : MethodName := ⟨RX3, "keptPlace", "(LLanternserver$Datagram;)I"⟩
abbrev cX3_dropKept : ByteArray := prog_5_method_19_code
def yX3_dropKept : MethodName := ⟨RX3, "dropKept", "(I)V"⟩
def RX4 : String := "Lanternserver$House"
def TX4 : u_T := fun k => match k with
  | 0 => ("Lanternserver$House", "names", "[LLanternserver$Row;", true)
  | 1 => ("Lanternserver$House", "contents", "[LLanternserver$Row;", true)
  | 2 => ("Lanternserver$House", "versions", "[I", true)
  | 3 => ("Lanternserver$House", "many", "I", false)
  | 4 => ("Lanternserver$House", "latest", "I", false)
  | 5 => ("Lanternserver$House", "list", "LLanternserver$Row;", true)
  | 6 => ("Lanternserver$House", "tagText", "LLanternserver$Row;", true)
  | 7 => ("Lanternserver$House", "tag", "I", false)
  | 8 => ("Lanternserver$House", "source", "LLanternserver$Row;", false)
  | 9 => ("Lanternserver$House", "from", "I", false)
  | _ => ("Lanternserver$House", "behind", "I", false)
def tyX4 : Nat → FieldType := fun k => match k with
  | 0 => .array (.object "Lanternserver$Row")
  | 1 => .array (.object "Lanternserver$Row")
  | 2 => .array .int
  | 3 => .int
  | 4 => .int
  | 5 => .object "Lanternserver$Row"
  | 6 => .object "Lanternserver$Row"
  | 7 => .int
  | 8 => .object "Lanternserver$Row"
  | 9 => .int
  | _ => .int
theorem nmX4 : ∀ a, a < 11 → ∀ b, b < 11 → a ≠ b → (TX4 a).2.1 ≠ (TX4 b).2.1 := by decide +kernel
theorem tyX4_ok : ∀ k, k < 11 → parseFieldDescriptor (TX4 k).2.2.1 = some (tyX4 k) := by decide +kernel
abbrev cX4_init : ByteArray := prog_6_method_1_code
def yX4_init : MethodName := ⟨RX4, "<init>", "()V"⟩
abbrev cX4_forget : ByteArray := prog_6_method_2_code
def yX4_forget : MethodName := ⟨RX4, "forget", "()V"⟩
abbrev cX4_isLike : ByteArray := prog_6_method_3_code
def yX4_isLike : MethodName := ⟨RX4, "isLike", "(LLanternserver$House;)Z"⟩
abbrev cX4_perform : ByteArray := prog_6_method_4_code
def yX4_perform : MethodName := ⟨RX4, "perform", "(LLanternserver$Reader;I)I"⟩
abbrev cX4_isFileName : ByteArray := prog_6_method_5_code
def yX4_isFileName : MethodName := ⟨RX4, "isFileName", "(LLanternserver$Row;)Z"⟩
abbrev cX4_placeOf : ByteArray := prog_6_method_6_code
def yX4_placeOf : MethodName := ⟨RX4, "placeOf", "(LLanternserver$Row;)I"⟩
abbrev cX4_isMatched : ByteArray := prog_6_method_7_code
def yX4_isMatched : MethodName := ⟨RX4, "isMatched", "(LLanternserver$Row;IZ)Z"⟩
abbrev cX4_showList : ByteArray := prog_6_method_8_code
def yX4_showList : MethodName := ⟨RX4, "showList", "()I"⟩
abbrev cX4_show : ByteArray := prog_6_method_9_code
def yX4_show : MethodName := ⟨RX4, "show", "(LLanternserver$Reader;I)I"⟩
abbrev cX4_cutRange : ByteArray := prog_6_method_10_code
def yX4_cutRange : MethodName := ⟨RX4, "cutRange", "(LLanternserver$Row;)I"⟩
abbrev cX4_replace : ByteArray := prog_6_method_11_code
def yX4_replace : MethodName := ⟨RX4, "replace", "(LLanternserver$Reader;I)I"⟩
abbrev cX4_append : ByteArray := prog_6_method_12_code
def yX4_append : MethodName := ⟨RX4, "append", "(LLanternserver$Reader;I)I"⟩
abbrev cX4_change : ByteArray := prog_6_method_13_code
def yX4_change : MethodName := ⟨RX4, "change", "(I)V"⟩
abbrev cX4_insert : ByteArray := prog_6_method_14_code
def yX4_insert : MethodName := ⟨RX4, "insert", "(LLanternserver$Row;)I"⟩
abbrev cX4_remove : ByteArray := prog_6_method_15_code
def yX4_remove : MethodName := ⟨RX4, "remove", "(I)V"⟩
abbrev cX4_writeAnswer : ByteArray := prog_6_method_16_code
def yX4_writeAnswer : MethodName := ⟨RX4, "writeAnswer", "(LLanternserver$Reader;IZLLanternserver$Row;)V"⟩
abbrev cX4_writeRange : ByteArray := prog_6_method_17_code
def yX4_writeRange : MethodName := ⟨RX4, "writeRange", "(ILLanternserver$Row;)V"⟩
abbrev cX4_wordOf : ByteArray := prog_6_method_18_code
def yX4_wordOf : MethodName := ⟨RX4, "wordOf", "(I)Ljava/lang/String;"⟩
def RX5 : String := "Lanternserver$Reader"
def TX5 : u_T := fun k => match k with
  | 0 => ("Lanternserver$Reader", "step", "I", false)
  | 1 => ("Lanternserver$Reader", "bytes", "I", false)
  | 2 => ("Lanternserver$Reader", "line", "LLanternserver$Row;", true)
  | 3 => ("Lanternserver$Reader", "lines", "I", false)
  | 4 => ("Lanternserver$Reader", "mark", "I", false)
  | 5 => ("Lanternserver$Reader", "method", "I", false)
  | 6 => ("Lanternserver$Reader", "target", "LLanternserver$Row;", true)
  | 7 => ("Lanternserver$Reader", "version", "I", false)
  | 8 => ("Lanternserver$Reader", "hostLines", "I", false)
  | 9 => ("Lanternserver$Reader", "length", "I", false)
  | 10 => ("Lanternserver$Reader", "isLengthWrong", "Z", false)
  | 11 => ("Lanternserver$Reader", "coding", "I", false)
  | 12 => ("Lanternserver$Reader", "staying", "I", false)
  | 13 => ("Lanternserver$Reader", "match", "LLanternserver$Row;", true)
  | 14 => ("Lanternserver$Reader", "noneMatch", "LLanternserver$Row;", true)
  | 15 => ("Lanternserver$Reader", "range", "LLanternserver$Row;", true)
  | 16 => ("Lanternserver$Reader", "body", "LLanternserver$Row;", true)
  | 17 => ("Lanternserver$Reader", "need", "I", false)
  | _ => ("Lanternserver$Reader", "digits", "I", false)
def tyX5 : Nat → FieldType := fun k => match k with
  | 0 => .int
  | 1 => .int
  | 2 => .object "Lanternserver$Row"
  | 3 => .int
  | 4 => .int
  | 5 => .int
  | 6 => .object "Lanternserver$Row"
  | 7 => .int
  | 8 => .int
  | 9 => .int
  | 10 => .boolean
  | 11 => .int
  | 12 => .int
  | 13 => .object "Lanternserver$Row"
  | 14 => .object "Lanternserver$Row"
  | 15 => .object "Lanternserver$Row"
  | 16 => .object "Lanternserver$Row"
  | 17 => .int
  | _ => .int
theorem nmX5 : ∀ a, a < 19 → ∀ b, b < 19 → a ≠ b → (TX5 a).2.1 ≠ (TX5 b).2.1 := by decide +kernel
theorem tyX5_ok : ∀ k, k < 19 → parseFieldDescriptor (TX5 k).2.2.1 = some (tyX5 k) := by decide +kernel
abbrev cX5_init : ByteArray := prog_7_method_1_code
def yX5_init : MethodName := ⟨RX5, "<init>", "()V"⟩
abbrev cX5_begin : ByteArray := prog_7_method_2_code
def yX5_begin : MethodName := ⟨RX5, "begin", "()V"⟩
abbrev cX5_isLast : ByteArray := prog_7_method_3_code
def yX5_isLast : MethodName := ⟨RX5, "isLast", "()Z"⟩
abbrev cX5_feed : ByteArray := prog_7_method_4_code
def yX5_feed : MethodName := ⟨RX5, "feed", "(I)I"⟩
abbrev cX5_wrongInHead : ByteArray := prog_7_method_5_code
def yX5_wrongInHead : MethodName := ⟨RX5, "wrongInHead", "(I)I"⟩
abbrev cX5_canStand : ByteArray := prog_7_method_6_code
def yX5_canStand : MethodName := ⟨RX5, "canStand", "(I)Z"⟩
abbrev cX5_stepOn : ByteArray := prog_7_method_7_code
def yX5_stepOn : MethodName := ⟨RX5, "stepOn", "(I)V"⟩
abbrev cX5_methodIn : ByteArray := prog_7_method_8_code
def yX5_methodIn : MethodName := ⟨RX5, "methodIn", "()I"⟩
abbrev cX5_noteVersion : ByteArray := prog_7_method_9_code
def yX5_noteVersion : MethodName := ⟨RX5, "noteVersion", "()V"⟩
abbrev cX5_noteField : ByteArray := prog_7_method_10_code
def yX5_noteField : MethodName := ⟨RX5, "noteField", "()V"⟩
abbrev cX5_noteLength : ByteArray := prog_7_method_11_code
def yX5_noteLength : MethodName := ⟨RX5, "noteLength", "(I)V"⟩
abbrev cX5_noteValue : ByteArray := prog_7_method_12_code
def yX5_noteValue : MethodName := ⟨RX5, "noteValue", "(LLanternserver$Row;II)V"⟩
abbrev cX5_judge : ByteArray := prog_7_method_13_code
def yX5_judge : MethodName := ⟨RX5, "judge", "()I"⟩
abbrev cX5_feedBody : ByteArray := prog_7_method_14_code
def yX5_feedBody : MethodName := ⟨RX5, "feedBody", "(I)I"⟩
abbrev cX5_expect : ByteArray := prog_7_method_15_code
def yX5_expect : MethodName := ⟨RX5, "expect", "(III)I"⟩
abbrev cX5_feedSize : ByteArray := prog_7_method_16_code
def yX5_feedSize : MethodName := ⟨RX5, "feedSize", "(I)I"⟩
def RX6 : String := "Lanternserver$Receiver"
def TX6 : u_T := fun k => match k with
  | 0 => ("Lanternserver$Receiver", "irs", "I", false)
  | 1 => ("Lanternserver$Receiver", "rcv", "I", false)
  | 2 => ("Lanternserver$Receiver", "in", "LLanternserver$Row;", true)
  | 3 => ("Lanternserver$Receiver", "taken", "I", false)
  | 4 => ("Lanternserver$Receiver", "hasFin", "Z", false)
  | 5 => ("Lanternserver$Receiver", "pieces", "[LLanternserver$Row;", true)
  | 6 => ("Lanternserver$Receiver", "begins", "[I", true)
  | _ => ("Lanternserver$Receiver", "many", "I", false)
def tyX6 : Nat → FieldType := fun k => match k with
  | 0 => .int
  | 1 => .int
  | 2 => .object "Lanternserver$Row"
  | 3 => .int
  | 4 => .boolean
  | 5 => .array (.object "Lanternserver$Row")
  | 6 => .array .int
  | _ => .int
theorem nmX6 : ∀ a, a < 8 → ∀ b, b < 8 → a ≠ b → (TX6 a).2.1 ≠ (TX6 b).2.1 := by decide +kernel
theorem tyX6_ok : ∀ k, k < 8 → parseFieldDescriptor (TX6 k).2.2.1 = some (tyX6 k) := by decide +kernel
abbrev cX6_init : ByteArray := prog_8_method_1_code
def yX6_init : MethodName := ⟨RX6, "<init>", "()V"⟩
abbrev cX6_begin : ByteArray := prog_8_method_2_code
def yX6_begin : MethodName := ⟨RX6, "begin", "(I)V"⟩
abbrev cX6_unread : ByteArray := prog_8_method_3_code
def yX6_unread : MethodName := ⟨RX6, "unread", "()I"⟩
abbrev cX6_window : ByteArray := prog_8_method_4_code
def yX6_window : MethodName := ⟨RX6, "window", "()I"⟩
abbrev cX6_takeBytes : ByteArray := prog_8_method_5_code
def yX6_takeBytes : MethodName := ⟨RX6, "takeBytes", "(LLanternserver$Segment;)V"⟩
abbrev cX6_joinPieces : ByteArray := prog_8_method_6_code
def yX6_joinPieces : MethodName := ⟨RX6, "joinPieces", "()V"⟩
abbrev cX6_firstPiece : ByteArray := prog_8_method_7_code
def yX6_firstPiece : MethodName := ⟨RX6, "firstPiece", "()I"⟩
def RX7 : String := "Lanternserver$Row"
def TX7 : u_T := fun k => match k with
  | 0 => ("Lanternserver$Row", "cells", "[I", false)
  | _ => ("Lanternserver$Row", "length", "I", false)
def tyX7 : Nat → FieldType := fun k => match k with
  | 0 => .array .int
  | _ => .int
theorem nmX7 : ∀ a, a < 2 → ∀ b, b < 2 → a ≠ b → (TX7 a).2.1 ≠ (TX7 b).2.1 := by decide +kernel
theorem tyX7_ok : ∀ k, k < 2 → parseFieldDescriptor (TX7 k).2.2.1 = some (tyX7 k) := by decide +kernel
abbrev cX7_init : ByteArray := prog_9_method_1_code
def yX7_init : MethodName := ⟨RX7, "<init>", "(I)V"⟩
abbrev cX7_length : ByteArray := prog_9_method_2_code
def yX7_length : MethodName := ⟨RX7, "length", "()I"⟩
abbrev cX7_at : ByteArray := prog_9_method_3_code
def yX7_at : MethodName := ⟨RX7, "at", "(I)I"⟩
abbrev cX7_twoAt : ByteArray := prog_9_method_4_code
def yX7_twoAt : MethodName := ⟨RX7, "twoAt", "(I)I"⟩
abbrev cX7_fourAt : ByteArray := prog_9_method_5_code
def yX7_fourAt : MethodName := ⟨RX7, "fourAt", "(I)I"⟩
abbrev cX7_hardwareAt : ByteArray := prog_9_method_6_code
def yX7_hardwareAt : MethodName := ⟨RX7, "hardwareAt", "(I)J"⟩
abbrev cX7_empty : ByteArray := prog_9_method_7_code
def yX7_empty : MethodName := ⟨RX7, "empty", "()V"⟩
abbrev cX7_setAt : ByteArray := prog_9_method_8_code
def yX7_setAt : MethodName := ⟨RX7, "setAt", "(II)V"⟩
abbrev cX7_setTwo : ByteArray := prog_9_method_9_code
def yX7_setTwo : MethodName := ⟨RX7, "setTwo", "(II)V"⟩
abbrev cX7_add : ByteArray := prog_9_method_10_code
def yX7_add : MethodName := ⟨RX7, "add", "(I)V"⟩
abbrev cX7_addTwo : ByteArray := prog_9_method_11_code
def yX7_addTwo : MethodName := ⟨RX7, "addTwo", "(I)V"⟩
abbrev cX7_addFour : ByteArray := prog_9_method_12_code
def yX7_addFour : MethodName := ⟨RX7, "addFour", "(I)V"⟩
abbrev cX7_addHardware : ByteArray := prog_9_method_13_code
def yX7_addHardware : MethodName := ⟨RX7, "addHardware", "(J)V"⟩
abbrev cX7_addRow : ByteArray := prog_9_method_14_code
def yX7_addRow : MethodName := ⟨RX7, "addRow", "(LLanternserver$Row;II)V"⟩
abbrev cX7_addZeros : ByteArray := prog_9_method_15_code
def yX7_addZeros : MethodName := ⟨RX7, "addZeros", "(I)V"⟩
abbrev cX7_addText : ByteArray := prog_9_method_16_code
def yX7_addText : MethodName := ⟨RX7, "addText", "(Ljava/lang/String;)V"⟩
abbrev cX7_addNumber : ByteArray := prog_9_method_17_code
def yX7_addNumber : MethodName := ⟨RX7, "addNumber", "(I)V"⟩
abbrev cX7_removeFirst : ByteArray := prog_9_method_18_code
def yX7_removeFirst : MethodName := ⟨RX7, "removeFirst", "(I)V"⟩
abbrev cX7_isSame : ByteArray := prog_9_method_19_code
def yX7_isSame : MethodName := ⟨RX7, "isSame", "(ILLanternserver$Row;II)Z"⟩
abbrev cX7_compare : ByteArray := prog_9_method_20_code
def yX7_compare : MethodName := ⟨RX7, "compare", "(LLanternserver$Row;)I"⟩
abbrev cX7_hasText : ByteArray := prog_9_method_21_code
def yX7_hasText : MethodName := ⟨RX7, "hasText", "(ILjava/lang/String;)Z"⟩
abbrev cX7_isWord : ByteArray := prog_9_method_22_code
def yX7_isWord : MethodName := ⟨RX7, "isWord", "(IILjava/lang/String;)Z"⟩
abbrev cX7_numberAt : ByteArray := prog_9_method_23_code
def yX7_numberAt : MethodName := ⟨RX7, "numberAt", "(II)I"⟩
abbrev cX7_behindName : ByteArray := prog_9_method_24_code
def yX7_behindName : MethodName := ⟨RX7, "behindName", "(I)I"⟩
abbrev cX7_sumOver : ByteArray := prog_9_method_25_code
def yX7_sumOver : MethodName := ⟨RX7, "sumOver", "(III)I"⟩
def RX8 : String := "Lanternserver$Segment"
def TX8 : u_T := fun k => match k with
  | 0 => ("Lanternserver$Segment", "sender", "I", false)
  | 1 => ("Lanternserver$Segment", "receiver", "I", false)
  | 2 => ("Lanternserver$Segment", "port", "I", false)
  | 3 => ("Lanternserver$Segment", "toPort", "I", false)
  | 4 => ("Lanternserver$Segment", "sequence", "I", false)
  | 5 => ("Lanternserver$Segment", "acknowledgement", "I", false)
  | 6 => ("Lanternserver$Segment", "flags", "I", false)
  | 7 => ("Lanternserver$Segment", "window", "I", false)
  | 8 => ("Lanternserver$Segment", "mss", "I", false)
  | 9 => ("Lanternserver$Segment", "bytes", "LLanternserver$Row;", false)
  | 10 => ("Lanternserver$Segment", "from", "I", false)
  | _ => ("Lanternserver$Segment", "many", "I", false)
def tyX8 : Nat → FieldType := fun k => match k with
  | 0 => .int
  | 1 => .int
  | 2 => .int
  | 3 => .int
  | 4 => .int
  | 5 => .int
  | 6 => .int
  | 7 => .int
  | 8 => .int
  | 9 => .object "Lanternserver$Row"
  | 10 => .int
  | _ => .int
theorem nmX8 : ∀ a, a < 12 → ∀ b, b < 12 → a ≠ b → (TX8 a).2.1 ≠ (TX8 b).2.1 := by decide +kernel
theorem tyX8_ok : ∀ k, k < 12 → parseFieldDescriptor (TX8 k).2.2.1 = some (tyX8 k) := by decide +kernel
abbrev cX8_init : ByteArray := prog_10_method_1_code
def yX8_init : MethodName := ⟨RX8, "<init>", "()V"⟩
abbrev cX8_has : ByteArray := prog_10_method_2_code
def yX8_has : MethodName := ⟨RX8, "has", "(I)Z"⟩
abbrev cX8_isRightIn : ByteArray := prog_10_method_3_code
def yX8_isRightIn : MethodName := ⟨RX8, "isRightIn", "(LLanternserver$Datagram;)Z"⟩
abbrev cX8_optionIn : ByteArray := prog_10_method_4_code
def yX8_optionIn : MethodName := ⟨RX8, "optionIn", "(LLanternserver$Row;I)I"⟩
def RX9 : String := "Lanternserver$Sender"
def TX9 : u_T := fun k => match k with
  | 0 => ("Lanternserver$Sender", "iss", "I", true)
  | 1 => ("Lanternserver$Sender", "una", "I", false)
  | 2 => ("Lanternserver$Sender", "nxt", "I", false)
  | 3 => ("Lanternserver$Sender", "out", "LLanternserver$Row;", true)
  | 4 => ("Lanternserver$Sender", "wrote", "I", false)
  | 5 => ("Lanternserver$Sender", "window", "I", false)
  | 6 => ("Lanternserver$Sender", "windowSequence", "I", false)
  | 7 => ("Lanternserver$Sender", "windowAcknowledgement", "I", false)
  | 8 => ("Lanternserver$Sender", "cwnd", "I", false)
  | 9 => ("Lanternserver$Sender", "threshold", "I", false)
  | 10 => ("Lanternserver$Sender", "rto", "I", false)
  | 11 => ("Lanternserver$Sender", "since", "I", false)
  | 12 => ("Lanternserver$Sender", "times", "I", false)
  | 13 => ("Lanternserver$Sender", "doubles", "I", false)
  | 14 => ("Lanternserver$Sender", "isFinSent", "Z", false)
  | 15 => ("Lanternserver$Sender", "isProbing", "Z", false)
  | 16 => ("Lanternserver$Sender", "measuredAt", "I", false)
  | 17 => ("Lanternserver$Sender", "measuredEnd", "I", false)
  | 18 => ("Lanternserver$Sender", "smooth", "I", false)
  | _ => ("Lanternserver$Sender", "spread", "I", false)
def tyX9 : Nat → FieldType := fun k => match k with
  | 0 => .int
  | 1 => .int
  | 2 => .int
  | 3 => .object "Lanternserver$Row"
  | 4 => .int
  | 5 => .int
  | 6 => .int
  | 7 => .int
  | 8 => .int
  | 9 => .int
  | 10 => .int
  | 11 => .int
  | 12 => .int
  | 13 => .int
  | 14 => .boolean
  | 15 => .boolean
  | 16 => .int
  | 17 => .int
  | 18 => .int
  | _ => .int
theorem nmX9 : ∀ a, a < 20 → ∀ b, b < 20 → a ≠ b → (TX9 a).2.1 ≠ (TX9 b).2.1 := by decide +kernel
theorem tyX9_ok : ∀ k, k < 20 → parseFieldDescriptor (TX9 k).2.2.1 = some (tyX9 k) := by decide +kernel
abbrev cX9_init : ByteArray := prog_11_method_1_code
def yX9_init : MethodName := ⟨RX9, "<init>", "(I)V"⟩
abbrev cX9_underWay : ByteArray := prog_11_method_2_code
def yX9_underWay : MethodName := ⟨RX9, "underWay", "()I"⟩
abbrev cX9_sentBytes : ByteArray := prog_11_method_3_code
def yX9_sentBytes : MethodName := ⟨RX9, "sentBytes", "()I"⟩
abbrev cX9_acknowledgedBytes : ByteArray := prog_11_method_4_code
def yX9_acknowledgedBytes : MethodName := ⟨RX9, "acknowledgedBytes", "()I"⟩
abbrev cX9_unsent : ByteArray := prog_11_method_5_code
def yX9_unsent : MethodName := ⟨RX9, "unsent", "()I"⟩
abbrev cX9_room : ByteArray := prog_11_method_6_code
def yX9_room : MethodName := ⟨RX9, "room", "()I"⟩
abbrev cX9_noteSent : ByteArray := prog_11_method_7_code
def yX9_noteSent : MethodName := ⟨RX9, "noteSent", "(II)V"⟩
abbrev cX9_noteAcknowledged : ByteArray := prog_11_method_8_code
def yX9_noteAcknowledged : MethodName := ⟨RX9, "noteAcknowledged", "(III)V"⟩
abbrev cX9_measure : ByteArray := prog_11_method_9_code
def yX9_measure : MethodName := ⟨RX9, "measure", "(I)V"⟩
abbrev cX9_noteWindow : ByteArray := prog_11_method_10_code
def yX9_noteWindow : MethodName := ⟨RX9, "noteWindow", "(LLanternserver$Segment;)V"⟩
abbrev cX9_tellWindow : ByteArray := prog_11_method_11_code
def yX9_tellWindow : MethodName := ⟨RX9, "tellWindow", "(LLanternserver$Segment;)V"⟩
abbrev cX9_lowerThreshold : ByteArray := prog_11_method_12_code
def yX9_lowerThreshold : MethodName := ⟨RX9, "lowerThreshold", "(I)V"⟩
def RX10 : String := "Lanternserver$Wire"
def TX10 : u_T := fun k => match k with
  | 0 => ("Lanternserver$Wire", "frames", "[LLanternserver$Frame;", true)
  | 1 => ("Lanternserver$Wire", "spare", "LLanternserver$Frame;", false)
  | 2 => ("Lanternserver$Wire", "lostOne", "LLanternserver$Frame;", true)
  | 3 => ("Lanternserver$Wire", "many", "I", false)
  | 4 => ("Lanternserver$Wire", "sent", "I", false)
  | 5 => ("Lanternserver$Wire", "lost", "I", false)
  | 6 => ("Lanternserver$Wire", "delivered", "I", false)
  | 7 => ("Lanternserver$Wire", "spoilings", "I", false)
  | 8 => ("Lanternserver$Wire", "time", "I", false)
  | 9 => ("Lanternserver$Wire", "outgoing", "[LLanternserver$Datagram;", true)
  | 10 => ("Lanternserver$Wire", "laidOut", "I", false)
  | 11 => ("Lanternserver$Wire", "sentAgain", "I", false)
  | 12 => ("Lanternserver$Wire", "resets", "I", false)
  | _ => ("Lanternserver$Wire", "strangers", "I", false)
def tyX10 : Nat → FieldType := fun k => match k with
  | 0 => .array (.object "Lanternserver$Frame")
  | 1 => .object "Lanternserver$Frame"
  | 2 => .object "Lanternserver$Frame"
  | 3 => .int
  | 4 => .int
  | 5 => .int
  | 6 => .int
  | 7 => .int
  | 8 => .int
  | 9 => .array (.object "Lanternserver$Datagram")
  | 10 => .int
  | 11 => .int
  | 12 => .int
  | _ => .int
theorem nmX10 : ∀ a, a < 14 → ∀ b, b < 14 → a ≠ b → (TX10 a).2.1 ≠ (TX10 b).2.1 := by decide +kernel
theorem tyX10_ok : ∀ k, k < 14 → parseFieldDescriptor (TX10 k).2.2.1 = some (tyX10 k) := by decide +kernel
abbrev cX10_init : ByteArray := prog_12_method_1_code
def yX10_init : MethodName := ⟨RX10, "<init>", "()V"⟩
abbrev cX10_open : ByteArray := prog_12_method_2_code
def yX10_open : MethodName := ⟨RX10, "open", "(IZ)LLanternserver$Frame;"⟩
abbrev cX10_takeOut : ByteArray := prog_12_method_3_code
def yX10_takeOut : MethodName := ⟨RX10, "takeOut", "(I)LLanternserver$Frame;"⟩
abbrev cX10_loseOne : ByteArray := prog_12_method_4_code
def yX10_loseOne : MethodName := ⟨RX10, "loseOne", "(I)I"⟩
abbrev cX10_doubleOne : ByteArray := prog_12_method_5_code
def yX10_doubleOne : MethodName := ⟨RX10, "doubleOne", "(I)I"⟩
abbrev cX10_spoilOne : ByteArray := prog_12_method_6_code
def yX10_spoilOne : MethodName := ⟨RX10, "spoilOne", "(III)I"⟩
abbrev cX10_letter : ByteArray := prog_12_method_7_code
def yX10_letter : MethodName := ⟨RX10, "letter", "(III)LLanternserver$Datagram;"⟩
abbrev cX10_layOut : ByteArray := prog_12_method_8_code
def yX10_layOut : MethodName := ⟨RX10, "layOut", "(LLanternserver$Datagram;)V"⟩
abbrev cX10_answerByReset : ByteArray := prog_12_method_9_code
def yX10_answerByReset : MethodName := ⟨RX10, "answerByReset", "(LLanternserver$Segment;)V"⟩
abbrev cX10_wrongSums : ByteArray := prog_12_method_10_code
def yX10_wrongSums : MethodName := ⟨RX10, "wrongSums", "()I"⟩
def RX11 : String := "Lanternserver"
def TX11 : u_T := fun k => match k with
  | 0 => ("Lanternserver", "tape", "LLanternserver$Row;", true)
  | 1 => ("Lanternserver", "wire", "LLanternserver$Wire;", true)
  | 2 => ("Lanternserver", "hosts", "Ljava/util/ArrayList;", true)
  | 3 => ("Lanternserver", "connections", "Ljava/util/ArrayList;", true)
  | 4 => ("Lanternserver", "echoes", "Ljava/util/ArrayList;", true)
  | 5 => ("Lanternserver", "isEchoAnswered", "[Z", true)
  | 6 => ("Lanternserver", "lookups", "Ljava/util/ArrayList;", true)
  | 7 => ("Lanternserver", "foundHosts", "[I", true)
  | 8 => ("Lanternserver", "nameAsked", "LLanternserver$Row;", true)
  | 9 => ("Lanternserver", "arrived", "LLanternserver$Datagram;", true)
  | 10 => ("Lanternserver", "segment", "LLanternserver$Segment;", true)
  | 11 => ("Lanternserver", "house", "LLanternserver$House;", true)
  | 12 => ("Lanternserver", "served", "LLanternserver$Row;", true)
  | 13 => ("Lanternserver", "naiveHouse", "LLanternserver$House;", true)
  | 14 => ("Lanternserver", "naiveReader", "LLanternserver$Reader;", true)
  | 15 => ("Lanternserver", "naiveAnswer", "LLanternserver$Row;", true)
  | _ => ("Lanternserver", "naivePlaces", "[I", true)
def tyX11 : Nat → FieldType := fun k => match k with
  | 0 => .object "Lanternserver$Row"
  | 1 => .object "Lanternserver$Wire"
  | 2 => .object "java/util/ArrayList"
  | 3 => .object "java/util/ArrayList"
  | 4 => .object "java/util/ArrayList"
  | 5 => .array .boolean
  | 6 => .object "java/util/ArrayList"
  | 7 => .array .int
  | 8 => .object "Lanternserver$Row"
  | 9 => .object "Lanternserver$Datagram"
  | 10 => .object "Lanternserver$Segment"
  | 11 => .object "Lanternserver$House"
  | 12 => .object "Lanternserver$Row"
  | 13 => .object "Lanternserver$House"
  | 14 => .object "Lanternserver$Reader"
  | 15 => .object "Lanternserver$Row"
  | _ => .array .int
theorem nmX11 : ∀ a, a < 17 → ∀ b, b < 17 → a ≠ b → (TX11 a).2.1 ≠ (TX11 b).2.1 := by decide +kernel
theorem tyX11_ok : ∀ k, k < 17 → parseFieldDescriptor (TX11 k).2.2.1 = some (tyX11 k) := by decide +kernel
abbrev cX11_init : ByteArray := prog_1_method_1_code
def yX11_init : MethodName := ⟨RX11, "<init>", "()V"⟩
abbrev cX11_type : ByteArray := prog_1_method_2_code
def yX11_type : MethodName := ⟨RX11, "type", "(JJJJJJ)I"⟩
abbrev cX11_put : ByteArray := prog_1_method_3_code
def yX11_put : MethodName := ⟨RX11, "put", "(II)I"⟩
abbrev cX11_piece : ByteArray := prog_1_method_4_code
def yX11_piece : MethodName := ⟨RX11, "piece", "(I)I"⟩
abbrev cX11_clear : ByteArray := prog_1_method_5_code
def yX11_clear : MethodName := ⟨RX11, "clear", "()I"⟩
abbrev cX11_sum : ByteArray := prog_1_method_6_code
def yX11_sum : MethodName := ⟨RX11, "sum", "(II)I"⟩
abbrev cX11_addHost : ByteArray := prog_1_method_7_code
def yX11_addHost : MethodName := ⟨RX11, "addHost", "(II)I"⟩
abbrev cX11_setMtu : ByteArray := prog_1_method_8_code
def yX11_setMtu : MethodName := ⟨RX11, "setMtu", "(II)I"⟩
abbrev cX11_hostAt : ByteArray := prog_1_method_9_code
def yX11_hostAt : MethodName := ⟨RX11, "hostAt", "(II)I"⟩
abbrev cX11_tableAt : ByteArray := prog_1_method_10_code
def yX11_tableAt : MethodName := ⟨RX11, "tableAt", "(II)I"⟩
abbrev cX11_deliver : ByteArray := prog_1_method_11_code
def yX11_deliver : MethodName := ⟨RX11, "deliver", "(I)I"⟩
abbrev cX11_lose : ByteArray := prog_1_method_12_code
def yX11_lose : MethodName := ⟨RX11, "lose", "(I)I"⟩
abbrev cX11_twice : ByteArray := prog_1_method_13_code
def yX11_twice : MethodName := ⟨RX11, "twice", "(I)I"⟩
abbrev cX11_spoil : ByteArray := prog_1_method_14_code
def yX11_spoil : MethodName := ⟨RX11, "spoil", "(III)I"⟩
abbrev cX11_frameAt : ByteArray := prog_1_method_15_code
def yX11_frameAt : MethodName := ⟨RX11, "frameAt", "(II)I"⟩
abbrev cX11_byteAt : ByteArray := prog_1_method_16_code
def yX11_byteAt : MethodName := ⟨RX11, "byteAt", "(II)I"⟩
abbrev cX11_pass : ByteArray := prog_1_method_17_code
def yX11_pass : MethodName := ⟨RX11, "pass", "(I)I"⟩
abbrev cX11_settle : ByteArray := prog_1_method_18_code
def yX11_settle : MethodName := ⟨RX11, "settle", "(I)I"⟩
abbrev cX11_play : ByteArray := prog_1_method_19_code
def yX11_play : MethodName := ⟨RX11, "play", "(II)I"⟩
abbrev cX11_echo : ByteArray := prog_1_method_20_code
def yX11_echo : MethodName := ⟨RX11, "echo", "(III)I"⟩
abbrev cX11_isAnswered : ByteArray := prog_1_method_21_code
def yX11_isAnswered : MethodName := ⟨RX11, "isAnswered", "(I)Z"⟩
abbrev cX11_name : ByteArray := prog_1_method_22_code
def yX11_name : MethodName := ⟨RX11, "name", "(I)I"⟩
abbrev cX11_lookUp : ByteArray := prog_1_method_23_code
def yX11_lookUp : MethodName := ⟨RX11, "lookUp", "(I)I"⟩
abbrev cX11_askAgain : ByteArray := prog_1_method_24_code
def yX11_askAgain : MethodName := ⟨RX11, "askAgain", "(I)V"⟩
abbrev cX11_found : ByteArray := prog_1_method_25_code
def yX11_found : MethodName := ⟨RX11, "found", "(I)I"⟩
abbrev cX11_connect : ByteArray := prog_1_method_26_code
def yX11_connect : MethodName := ⟨RX11, "connect", "(III)I"⟩
abbrev cX11_write : ByteArray := prog_1_method_27_code
def yX11_write : MethodName := ⟨RX11, "write", "(I)I"⟩
abbrev cX11_read : ByteArray := prog_1_method_28_code
def yX11_read : MethodName := ⟨RX11, "read", "(II)I"⟩
abbrev cX11_readAt : ByteArray := prog_1_method_29_code
def yX11_readAt : MethodName := ⟨RX11, "readAt", "(II)I"⟩
abbrev cX11_close : ByteArray := prog_1_method_30_code
def yX11_close : MethodName := ⟨RX11, "close", "(IZ)I"⟩
abbrev cX11_connectionAt : ByteArray := prog_1_method_31_code
def yX11_connectionAt : MethodName := ⟨RX11, "connectionAt", "(II)I"⟩
abbrev cX11_fileAt : ByteArray := prog_1_method_32_code
def yX11_fileAt : MethodName := ⟨RX11, "fileAt", "(II)I"⟩
abbrev cX11_fileByteAt : ByteArray := prog_1_method_33_code
def yX11_fileByteAt : MethodName := ⟨RX11, "fileByteAt", "(IZI)I"⟩
abbrev cX11_servedAt : ByteArray := prog_1_method_34_code
def yX11_servedAt : MethodName := ⟨RX11, "servedAt", "(II)I"⟩
abbrev cX11_answerAt : ByteArray := prog_1_method_35_code
def yX11_answerAt : MethodName := ⟨RX11, "answerAt", "(II)I"⟩
abbrev cX11_count : ByteArray := prog_1_method_36_code
def yX11_count : MethodName := ⟨RX11, "count", "(I)I"⟩
abbrev cX11_agrees : ByteArray := prog_1_method_37_code
def yX11_agrees : MethodName := ⟨RX11, "agrees", "()Z"⟩
abbrev cX11_errors : ByteArray := prog_1_method_38_code
def yX11_errors : MethodName := ⟨RX11, "errors", "()I"⟩
abbrev cX11_deliveredShare : ByteArray := prog_1_method_39_code
def yX11_deliveredShare : MethodName := ⟨RX11, "deliveredShare", "()D"⟩
abbrev cX11_meanAnswer : ByteArray := prog_1_method_40_code
def yX11_meanAnswer : MethodName := ⟨RX11, "meanAnswer", "()F"⟩
abbrev cX11_hasHost : ByteArray := prog_1_method_41_code
def yX11_hasHost : MethodName := ⟨RX11, "hasHost", "(I)Z"⟩
abbrev cX11_hasConnection : ByteArray := prog_1_method_42_code
def yX11_hasConnection : MethodName := ⟨RX11, "hasConnection", "(I)Z"⟩
abbrev cX11_isNoChoice : ByteArray := prog_1_method_43_code
def yX11_isNoChoice : MethodName := ⟨RX11, "isNoChoice", "(I)Z"⟩
abbrev cX11_nextSeed : ByteArray := prog_1_method_44_code
def yX11_nextSeed : MethodName := ⟨RX11, "nextSeed", "(I)I"⟩
abbrev cX11_draw : ByteArray := prog_1_method_45_code
def yX11_draw : MethodName := ⟨RX11, "draw", "(II)I"⟩
abbrev cX11_isAhead : ByteArray := prog_1_method_46_code
def yX11_isAhead : MethodName := ⟨RX11, "isAhead", "(II)Z"⟩
abbrev cX11_bytesIn : ByteArray := prog_1_method_47_code
def yX11_bytesIn : MethodName := ⟨RX11, "bytesIn", "(J)I"⟩
abbrev cX11_typeNumber : ByteArray := prog_1_method_48_code
def yX11_typeNumber : MethodName := ⟨RX11, "typeNumber", "(J)V"⟩
abbrev cX11_pieceText : ByteArray := prog_1_method_49_code
def yX11_pieceText : MethodName := ⟨RX11, "pieceText", "(I)Ljava/lang/String;"⟩
abbrev cX11_answeredEchoes : ByteArray := prog_1_method_50_code
def yX11_answeredEchoes : MethodName := ⟨RX11, "answeredEchoes", "()I"⟩
abbrev cX11_openMany : ByteArray := prog_1_method_51_code
def yX11_openMany : MethodName := ⟨RX11, "openMany", "(Z)I"⟩
abbrev cX11_isTimerRunning : ByteArray := prog_1_method_52_code
def yX11_isTimerRunning : MethodName := ⟨RX11, "isTimerRunning", "()Z"⟩
abbrev cX11_postAll : ByteArray := prog_1_method_53_code
def yX11_postAll : MethodName := ⟨RX11, "postAll", "()V"⟩
abbrev cX11_carryOne : ByteArray := prog_1_method_54_code
def yX11_carryOne : MethodName := ⟨RX11, "carryOne", "(I)I"⟩
abbrev cX11_tick : ByteArray := prog_1_method_55_code
def yX11_tick : MethodName := ⟨RX11, "tick", "()V"⟩
abbrev cX11_takeEcho : ByteArray := prog_1_method_56_code
def yX11_takeEcho : MethodName := ⟨RX11, "takeEcho", "(I)V"⟩
abbrev cX11_takeNames : ByteArray := prog_1_method_57_code
def yX11_takeNames : MethodName := ⟨RX11, "takeNames", "(I)V"⟩
abbrev cX11_answerName : ByteArray := prog_1_method_58_code
def yX11_answerName : MethodName := ⟨RX11, "answerName", "()V"⟩
abbrev cX11_isQuestionHead : ByteArray := prog_1_method_59_code
def yX11_isQuestionHead : MethodName := ⟨RX11, "isQuestionHead", "(LLanternserver$Row;)Z"⟩
abbrev cX11_takeAnswer : ByteArray := prog_1_method_60_code
def yX11_takeAnswer : MethodName := ⟨RX11, "takeAnswer", "(I)V"⟩
abbrev cX11_readName : ByteArray := prog_1_method_61_code
def yX11_readName : MethodName := ⟨RX11, "readName", "()I"⟩
abbrev cX11_ownerOf : ByteArray := prog_1_method_62_code
def yX11_ownerOf : MethodName := ⟨RX11, "ownerOf", "(LLanternserver$Row;II)I"⟩
abbrev cX11_takeSegment : ByteArray := prog_1_method_63_code
def yX11_takeSegment : MethodName := ⟨RX11, "takeSegment", "(I)V"⟩
abbrev cX11_connectionOf : ByteArray := prog_1_method_64_code
def yX11_connectionOf : MethodName := ⟨RX11, "connectionOf", "(I)LLanternserver$Connection;"⟩
abbrev cX11_isBeginning : ByteArray := prog_1_method_65_code
def yX11_isBeginning : MethodName := ⟨RX11, "isBeginning", "(I)Z"⟩
abbrev cX11_newServers : ByteArray := prog_1_method_66_code
def yX11_newServers : MethodName := ⟨RX11, "newServers", "()LLanternserver$Connection;"⟩
abbrev cX11_serversOf : ByteArray := prog_1_method_67_code
def yX11_serversOf : MethodName := ⟨RX11, "serversOf", "(LLanternserver$Connection;I)I"⟩
abbrev cX11_serve : ByteArray := prog_1_method_68_code
def yX11_serve : MethodName := ⟨RX11, "serve", "(LLanternserver$Connection;)V"⟩
abbrev cX11_noteServed : ByteArray := prog_1_method_69_code
def yX11_noteServed : MethodName := ⟨RX11, "noteServed", "(LLanternserver$Connection;II)V"⟩
abbrev cX11_servedMany : ByteArray := prog_1_method_70_code
def yX11_servedMany : MethodName := ⟨RX11, "servedMany", "()I"⟩
abbrev cX11_servedNumber : ByteArray := prog_1_method_71_code
def yX11_servedNumber : MethodName := ⟨RX11, "servedNumber", "(II)I"⟩
abbrev cX11_servedWell : ByteArray := prog_1_method_72_code
def yX11_servedWell : MethodName := ⟨RX11, "servedWell", "()I"⟩
abbrev cX11_isServedNaively : ByteArray := prog_1_method_73_code
def yX11_isServedNaively : MethodName := ⟨RX11, "isServedNaively", "(I)Z"⟩
abbrev cX11_hasReadOtherwise : ByteArray := prog_1_method_74_code
def yX11_hasReadOtherwise : MethodName := ⟨RX11, "hasReadOtherwise", "(LLanternserver$Connection;)Z"⟩
def RX12 : String := "LanternserverModel$Bytes"
def TX12 : u_T := fun k => match k with
  | 0 => ("LanternserverModel$Bytes", "row", "[I", false)
  | _ => ("LanternserverModel$Bytes", "many", "I", false)
def tyX12 : Nat → FieldType := fun k => match k with
  | 0 => .array .int
  | _ => .int
theorem nmX12 : ∀ a, a < 2 → ∀ b, b < 2 → a ≠ b → (TX12 a).2.1 ≠ (TX12 b).2.1 := by decide +kernel
theorem tyX12_ok : ∀ k, k < 2 → parseFieldDescriptor (TX12 k).2.2.1 = some (tyX12 k) := by decide +kernel
abbrev cX12_init : ByteArray := prog_15_method_1_code
def yX12_init : MethodName := ⟨RX12, "<init>", "()V"⟩
abbrev cX12_add : ByteArray := prog_15_method_2_code
def yX12_add : MethodName := ⟨RX12, "add", "(I)V"⟩
def RX13 : String := "LanternserverModel$Early"
def TX13 : u_T := fun k => match k with
  | 0 => ("LanternserverModel$Early", "begin", "I", true)
  | _ => ("LanternserverModel$Early", "row", "[I", true)
def tyX13 : Nat → FieldType := fun k => match k with
  | 0 => .int
  | _ => .array .int
theorem nmX13 : ∀ a, a < 2 → ∀ b, b < 2 → a ≠ b → (TX13 a).2.1 ≠ (TX13 b).2.1 := by decide +kernel
theorem tyX13_ok : ∀ k, k < 2 → parseFieldDescriptor (TX13 k).2.2.1 = some (tyX13 k) := by decide +kernel
abbrev cX13_init : ByteArray := prog_16_method_1_code
def yX13_init : MethodName := ⟨RX13, "<init>", "(I[I)V"⟩
def RX14 : String := "LanternserverModel$Frame"
def TX14 : u_T := fun k => match k with
  | 0 => ("LanternserverModel$Frame", "row", "[I", false)
  | 1 => ("LanternserverModel$Frame", "from", "I", false)
  | 2 => ("LanternserverModel$Frame", "isSpoilt", "Z", false)
  | _ => ("LanternserverModel$Frame", "isPiece", "Z", false)
def tyX14 : Nat → FieldType := fun k => match k with
  | 0 => .array .int
  | 1 => .int
  | 2 => .boolean
  | _ => .boolean
theorem nmX14 : ∀ a, a < 4 → ∀ b, b < 4 → a ≠ b → (TX14 a).2.1 ≠ (TX14 b).2.1 := by decide +kernel
theorem tyX14_ok : ∀ k, k < 4 → parseFieldDescriptor (TX14 k).2.2.1 = some (tyX14 k) := by decide +kernel
abbrev cX14_init : ByteArray := prog_17_method_1_code
def yX14_init : MethodName := ⟨RX14, "<init>", "()V"⟩
def RX15 : String := "LanternserverModel$Host"
def TX15 : u_T := fun k => match k with
  | 0 => ("LanternserverModel$Host", "mss", "I", true)
  | 1 => ("LanternserverModel$Host", "mtu", "I", false)
  | 2 => ("LanternserverModel$Host", "counted", "I", false)
  | 3 => ("LanternserverModel$Host", "took", "I", false)
  | 4 => ("LanternserverModel$Host", "refused", "I", false)
  | 5 => ("LanternserverModel$Host", "known", "I", false)
  | 6 => ("LanternserverModel$Host", "waiting", "I", false)
  | 7 => ("LanternserverModel$Host", "together", "I", false)
  | 8 => ("LanternserverModel$Host", "table", "[LLanternserverModel$Known;", false)
  | 9 => ("LanternserverModel$Host", "waits", "[LLanternserverModel$Waits;", true)
  | 10 => ("LanternserverModel$Host", "parts", "[LLanternserverModel$Together;", true)
  | 11 => ("LanternserverModel$Host", "asked", "[I", true)
  | 12 => ("LanternserverModel$Host", "name", "[I", false)
  | 13 => ("LanternserverModel$Host", "made", "[[I", false)
  | 14 => ("LanternserverModel$Host", "madeProtocol", "[I", false)
  | _ => ("LanternserverModel$Host", "madeTo", "[I", false)
def tyX15 : Nat → FieldType := fun k => match k with
  | 0 => .int
  | 1 => .int
  | 2 => .int
  | 3 => .int
  | 4 => .int
  | 5 => .int
  | 6 => .int
  | 7 => .int
  | 8 => .array (.object "LanternserverModel$Known")
  | 9 => .array (.object "LanternserverModel$Waits")
  | 10 => .array (.object "LanternserverModel$Together")
  | 11 => .array .int
  | 12 => .array .int
  | 13 => .array (.array .int)
  | 14 => .array .int
  | _ => .array .int
theorem nmX15 : ∀ a, a < 16 → ∀ b, b < 16 → a ≠ b → (TX15 a).2.1 ≠ (TX15 b).2.1 := by decide +kernel
theorem tyX15_ok : ∀ k, k < 16 → parseFieldDescriptor (TX15 k).2.2.1 = some (tyX15 k) := by decide +kernel
abbrev cX15_init : ByteArray := prog_18_method_1_code
def yX15_init : MethodName := ⟨RX15, "<init>", "(II)V"⟩
def RX16 : String := "LanternserverModel$Known"
def TX16 : u_T := fun k => match k with
  | 0 => ("LanternserverModel$Known", "address", "I", false)
  | 1 => ("LanternserverModel$Known", "hardware", "J", false)
  | _ => ("LanternserverModel$Known", "since", "I", false)
def tyX16 : Nat → FieldType := fun k => match k with
  | 0 => .int
  | 1 => .long
  | _ => .int
theorem nmX16 : ∀ a, a < 3 → ∀ b, b < 3 → a ≠ b → (TX16 a).2.1 ≠ (TX16 b).2.1 := by decide +kernel
theorem tyX16_ok : ∀ k, k < 3 → parseFieldDescriptor (TX16 k).2.2.1 = some (tyX16 k) := by decide +kernel
abbrev cX16_init : ByteArray := prog_19_method_1_code
def yX16_init : MethodName := ⟨RX16, "<init>", "()V"⟩
def RX17 : String := "LanternserverModel$Line"
def TX17 : u_T := fun k => match k with
  | 0 => ("LanternserverModel$Line", "number", "I", true)
  | 1 => ("LanternserverModel$Line", "host", "I", true)
  | 2 => ("LanternserverModel$Line", "port", "I", true)
  | 3 => ("LanternserverModel$Line", "other", "I", true)
  | 4 => ("LanternserverModel$Line", "otherPort", "I", true)
  | 5 => ("LanternserverModel$Line", "iss", "I", true)
  | 6 => ("LanternserverModel$Line", "state", "I", false)
  | 7 => ("LanternserverModel$Line", "una", "I", false)
  | 8 => ("LanternserverModel$Line", "nxt", "I", false)
  | 9 => ("LanternserverModel$Line", "out", "LLanternserverModel$Bytes;", true)
  | 10 => ("LanternserverModel$Line", "isClosed", "Z", false)
  | 11 => ("LanternserverModel$Line", "isFinSent", "Z", false)
  | 12 => ("LanternserverModel$Line", "window", "I", false)
  | 13 => ("LanternserverModel$Line", "windowSequence", "I", false)
  | 14 => ("LanternserverModel$Line", "windowAcknowledged", "I", false)
  | 15 => ("LanternserverModel$Line", "cwnd", "I", false)
  | 16 => ("LanternserverModel$Line", "threshold", "I", false)
  | 17 => ("LanternserverModel$Line", "mss", "I", false)
  | 18 => ("LanternserverModel$Line", "hasOther", "Z", false)
  | 19 => ("LanternserverModel$Line", "irs", "I", false)
  | 20 => ("LanternserverModel$Line", "rcv", "I", false)
  | 21 => ("LanternserverModel$Line", "got", "LLanternserverModel$Bytes;", true)
  | 22 => ("LanternserverModel$Line", "read", "I", false)
  | 23 => ("LanternserverModel$Line", "hasFin", "Z", false)
  | 24 => ("LanternserverModel$Line", "early", "[LLanternserverModel$Early;", true)
  | 25 => ("LanternserverModel$Line", "earlyMany", "I", false)
  | 26 => ("LanternserverModel$Line", "rto", "I", false)
  | 27 => ("LanternserverModel$Line", "timedFrom", "I", false)
  | 28 => ("LanternserverModel$Line", "isProbing", "Z", false)
  | 29 => ("LanternserverModel$Line", "times", "I", false)
  | 30 => ("LanternserverModel$Line", "doubles", "I", false)
  | 31 => ("LanternserverModel$Line", "isMeasured", "Z", false)
  | 32 => ("LanternserverModel$Line", "measuredEnd", "I", false)
  | 33 => ("LanternserverModel$Line", "measuredFrom", "I", false)
  | 34 => ("LanternserverModel$Line", "hasSmooth", "Z", false)
  | 35 => ("LanternserverModel$Line", "smooth", "I", false)
  | 36 => ("LanternserverModel$Line", "varies", "I", false)
  | 37 => ("LanternserverModel$Line", "ended", "I", false)
  | 38 => ("LanternserverModel$Line", "latest", "I", false)
  | 39 => ("LanternserverModel$Line", "waitsFrom", "I", false)
  | _ => ("LanternserverModel$Line", "end", "I", false)
def tyX17 : Nat → FieldType := fun k => match k with
  | 0 => .int
  | 1 => .int
  | 2 => .int
  | 3 => .int
  | 4 => .int
  | 5 => .int
  | 6 => .int
  | 7 => .int
  | 8 => .int
  | 9 => .object "LanternserverModel$Bytes"
  | 10 => .boolean
  | 11 => .boolean
  | 12 => .int
  | 13 => .int
  | 14 => .int
  | 15 => .int
  | 16 => .int
  | 17 => .int
  | 18 => .boolean
  | 19 => .int
  | 20 => .int
  | 21 => .object "LanternserverModel$Bytes"
  | 22 => .int
  | 23 => .boolean
  | 24 => .array (.object "LanternserverModel$Early")
  | 25 => .int
  | 26 => .int
  | 27 => .int
  | 28 => .boolean
  | 29 => .int
  | 30 => .int
  | 31 => .boolean
  | 32 => .int
  | 33 => .int
  | 34 => .boolean
  | 35 => .int
  | 36 => .int
  | 37 => .int
  | 38 => .int
  | 39 => .int
  | _ => .int
theorem nmX17 : ∀ a, a < 41 → ∀ b, b < 41 → a ≠ b → (TX17 a).2.1 ≠ (TX17 b).2.1 := by decide +kernel
theorem tyX17_ok : ∀ k, k < 41 → parseFieldDescriptor (TX17 k).2.2.1 = some (tyX17 k) := by decide +kernel
abbrev cX17_init : ByteArray := prog_20_method_1_code
def yX17_init : MethodName := ⟨RX17, "<init>", "(IIIIIII)V"⟩
abbrev cX17_underWay : ByteArray := prog_20_method_2_code
def yX17_underWay : MethodName := ⟨RX17, "underWay", "()I"⟩
abbrev cX17_sentBytes : ByteArray := prog_20_method_3_code
def yX17_sentBytes : MethodName := ⟨RX17, "sentBytes", "()I"⟩
abbrev cX17_goneBytes : ByteArray := prog_20_method_4_code
def yX17_goneBytes : MethodName := ⟨RX17, "goneBytes", "()I"⟩
abbrev cX17_waiting : ByteArray := prog_20_method_5_code
def yX17_waiting : MethodName := ⟨RX17, "waiting", "()I"⟩
abbrev cX17_isTold : ByteArray := prog_20_method_6_code
def yX17_isTold : MethodName := ⟨RX17, "isTold", "()Z"⟩
abbrev cX17_ownWindow : ByteArray := prog_20_method_7_code
def yX17_ownWindow : MethodName := ⟨RX17, "ownWindow", "()I"⟩
abbrev cX17_isSending : ByteArray := prog_20_method_8_code
def yX17_isSending : MethodName := ⟨RX17, "isSending", "()Z"⟩
abbrev cX17_isShut : ByteArray := prog_20_method_9_code
def yX17_isShut : MethodName := ⟨RX17, "isShut", "()Z"⟩
abbrev cX17_isTimed : ByteArray := prog_20_method_10_code
def yX17_isTimed : MethodName := ⟨RX17, "isTimed", "()Z"⟩
def RX18 : String := "LanternserverModel$Together"
def TX18 : u_T := fun k => match k with
  | 0 => ("LanternserverModel$Together", "address", "I", false)
  | 1 => ("LanternserverModel$Together", "identification", "I", false)
  | 2 => ("LanternserverModel$Together", "protocol", "I", false)
  | 3 => ("LanternserverModel$Together", "since", "I", false)
  | 4 => ("LanternserverModel$Together", "end", "I", false)
  | 5 => ("LanternserverModel$Together", "bytes", "[I", true)
  | _ => ("LanternserverModel$Together", "has", "[Z", true)
def tyX18 : Nat → FieldType := fun k => match k with
  | 0 => .int
  | 1 => .int
  | 2 => .int
  | 3 => .int
  | 4 => .int
  | 5 => .array .int
  | _ => .array .boolean
theorem nmX18 : ∀ a, a < 7 → ∀ b, b < 7 → a ≠ b → (TX18 a).2.1 ≠ (TX18 b).2.1 := by decide +kernel
theorem tyX18_ok : ∀ k, k < 7 → parseFieldDescriptor (TX18 k).2.2.1 = some (tyX18 k) := by decide +kernel
abbrev cX18_init : ByteArray := prog_21_method_1_code
def yX18_init : MethodName := ⟨RX18, "<init>", "()V"⟩
abbrev cX18_isWhole : ByteArray := prog_21_method_2_code
def yX18_isWhole : MethodName := ⟨RX18, "isWhole", "()Z"⟩
def RX19 : String := "LanternserverModel$Waits"
def TX19 : u_T := fun k => match k with
  | 0 => ("LanternserverModel$Waits", "to", "I", false)
  | _ => ("LanternserverModel$Waits", "rows", "[[I", false)
def tyX19 : Nat → FieldType := fun k => match k with
  | 0 => .int
  | _ => .array (.array .int)
theorem nmX19 : ∀ a, a < 2 → ∀ b, b < 2 → a ≠ b → (TX19 a).2.1 ≠ (TX19 b).2.1 := by decide +kernel
theorem tyX19_ok : ∀ k, k < 2 → parseFieldDescriptor (TX19 k).2.2.1 = some (tyX19 k) := by decide +kernel
abbrev cX19_init : ByteArray := prog_22_method_1_code
def yX19_init : MethodName := ⟨RX19, "<init>", "()V"⟩
def RX20 : String := "LanternserverModel"
def TX20 : u_T := fun k => match k with
  | 0 => ("LanternserverModel", "thrown", "I", false)
  | 1 => ("LanternserverModel", "time", "I", false)
  | 2 => ("LanternserverModel", "hosts", "I", false)
  | 3 => ("LanternserverModel", "tape", "[I", true)
  | 4 => ("LanternserverModel", "tapeMany", "I", false)
  | 5 => ("LanternserverModel", "host", "[LLanternserverModel$Host;", true)
  | 6 => ("LanternserverModel", "wire", "[LLanternserverModel$Frame;", true)
  | 7 => ("LanternserverModel", "frames", "I", false)
  | 8 => ("LanternserverModel", "lost", "I", false)
  | 9 => ("LanternserverModel", "spoilt", "I", false)
  | 10 => ("LanternserverModel", "framesSent", "J", false)
  | 11 => ("LanternserverModel", "delivered", "J", false)
  | 12 => ("LanternserverModel", "strange", "I", false)
  | 13 => ("LanternserverModel", "echoes", "I", false)
  | 14 => ("LanternserverModel", "answered", "I", false)
  | 15 => ("LanternserverModel", "echoHost", "[I", true)
  | 16 => ("LanternserverModel", "echoTo", "[I", true)
  | 17 => ("LanternserverModel", "echoMany", "[I", true)
  | 18 => ("LanternserverModel", "isAnswered", "[Z", true)
  | 19 => ("LanternserverModel", "lookups", "I", false)
  | 20 => ("LanternserverModel", "lookupHost", "[I", true)
  | 21 => ("LanternserverModel", "lookupFound", "[I", true)
  | 22 => ("LanternserverModel", "lookupName", "[[I", true)
  | 23 => ("LanternserverModel", "seed", "I", false)
  | 24 => ("LanternserverModel", "lines", "[LLanternserverModel$Line;", true)
  | 25 => ("LanternserverModel", "connections", "I", false)
  | 26 => ("LanternserverModel", "sentAgain", "I", false)
  | 27 => ("LanternserverModel", "answeredByRst", "I", false)
  | 28 => ("LanternserverModel", "came", "[I", false)
  | 29 => ("LanternserverModel", "cameFrom", "I", false)
  | 30 => ("LanternserverModel", "cameMany", "I", false)
  | 31 => ("LanternserverModel", "sequence", "I", false)
  | 32 => ("LanternserverModel", "acknowledgement", "I", false)
  | 33 => ("LanternserverModel", "flags", "I", false)
  | 34 => ("LanternserverModel", "cameWindow", "I", false)
  | 35 => ("LanternserverModel", "letter", "[I", true)
  | 36 => ("LanternserverModel", "letterFrom", "[I", true)
  | 37 => ("LanternserverModel", "codes", "[I", true)
  | 38 => ("LanternserverModel", "phase", "[I", true)
  | 39 => ("LanternserverModel", "bytesRead", "[I", true)
  | 40 => ("LanternserverModel", "lineLong", "[I", true)
  | 41 => ("LanternserverModel", "linesRead", "[I", true)
  | 42 => ("LanternserverModel", "fits", "[I", true)
  | 43 => ("LanternserverModel", "wordLong", "[I", true)
  | 44 => ("LanternserverModel", "method", "[I", true)
  | 45 => ("LanternserverModel", "targetLong", "[I", true)
  | 46 => ("LanternserverModel", "edition", "[I", true)
  | 47 => ("LanternserverModel", "valueLong", "[I", true)
  | 48 => ("LanternserverModel", "valueEnd", "[I", true)
  | 49 => ("LanternserverModel", "nameOfLine", "[I", true)
  | 50 => ("LanternserverModel", "hostsTold", "[I", true)
  | 51 => ("LanternserverModel", "lengthTold", "[I", true)
  | 52 => ("LanternserverModel", "coding", "[I", true)
  | 53 => ("LanternserverModel", "staying", "[I", true)
  | 54 => ("LanternserverModel", "ifMatch", "[I", true)
  | 55 => ("LanternserverModel", "ifNone", "[I", true)
  | 56 => ("LanternserverModel", "isLengthBad", "[Z", true)
  | 57 => ("LanternserverModel", "rangeKind", "[I", true)
  | 58 => ("LanternserverModel", "rangeA", "[I", true)
  | 59 => ("LanternserverModel", "rangeB", "[I", true)
  | 60 => ("LanternserverModel", "bodyLong", "[I", true)
  | 61 => ("LanternserverModel", "bodyLeft", "[I", true)
  | 62 => ("LanternserverModel", "sizeDigits", "[I", true)
  | 63 => ("LanternserverModel", "sizeTold", "[I", true)
  | 64 => ("LanternserverModel", "target", "[I", true)
  | 65 => ("LanternserverModel", "value", "[I", true)
  | 66 => ("LanternserverModel", "body", "[I", true)
  | 67 => ("LanternserverModel", "numberEnd", "I", false)
  | 68 => ("LanternserverModel", "files", "[I", true)
  | 69 => ("LanternserverModel", "version", "[I", true)
  | 70 => ("LanternserverModel", "nameLong", "[I", true)
  | 71 => ("LanternserverModel", "nameByte", "[I", true)
  | 72 => ("LanternserverModel", "fileSize", "[I", true)
  | 73 => ("LanternserverModel", "fileVersion", "[I", true)
  | 74 => ("LanternserverModel", "fileByte", "[I", true)
  | 75 => ("LanternserverModel", "partFrom", "I", false)
  | 76 => ("LanternserverModel", "partLong", "I", false)
  | 77 => ("LanternserverModel", "tagTold", "I", false)
  | 78 => ("LanternserverModel", "sizeAsked", "I", false)
  | 79 => ("LanternserverModel", "said", "[I", false)
  | 80 => ("LanternserverModel", "saidLong", "I", false)
  | 81 => ("LanternserverModel", "servedConnection", "[I", false)
  | 82 => ("LanternserverModel", "servedNumber", "[I", false)
  | 83 => ("LanternserverModel", "servedCode", "[I", false)
  | 84 => ("LanternserverModel", "servedFrom", "[I", false)
  | 85 => ("LanternserverModel", "servedMany", "[I", false)
  | 86 => ("LanternserverModel", "servedBytes", "[I", false)
  | 87 => ("LanternserverModel", "servedTime", "[I", false)
  | 88 => ("LanternserverModel", "servedLast", "[I", false)
  | 89 => ("LanternserverModel", "served", "I", false)
  | 90 => ("LanternserverModel", "servedNow", "[I", true)
  | 91 => ("LanternserverModel", "servedWritten", "[I", true)
  | 92 => ("LanternserverModel", "servedHere", "[I", true)
  | 93 => ("LanternserverModel", "isServing", "[Z", true)
  | 94 => ("LanternserverModel", "houseAt", "[I", true)
  | _ => ("LanternserverModel", "clientAt", "[I", true)
def tyX20 : Nat → FieldType := fun k => match k with
  | 0 => .int
  | 1 => .int
  | 2 => .int
  | 3 => .array .int
  | 4 => .int
  | 5 => .array (.object "LanternserverModel$Host")
  | 6 => .array (.object "LanternserverModel$Frame")
  | 7 => .int
  | 8 => .int
  | 9 => .int
  | 10 => .long
  | 11 => .long
  | 12 => .int
  | 13 => .int
  | 14 => .int
  | 15 => .array .int
  | 16 => .array .int
  | 17 => .array .int
  | 18 => .array .boolean
  | 19 => .int
  | 20 => .array .int
  | 21 => .array .int
  | 22 => .array (.array .int)
  | 23 => .int
  | 24 => .array (.object "LanternserverModel$Line")
  | 25 => .int
  | 26 => .int
  | 27 => .int
  | 28 => .array .int
  | 29 => .int
  | 30 => .int
  | 31 => .int
  | 32 => .int
  | 33 => .int
  | 34 => .int
  | 35 => .array .int
  | 36 => .array .int
  | 37 => .array .int
  | 38 => .array .int
  | 39 => .array .int
  | 40 => .array .int
  | 41 => .array .int
  | 42 => .array .int
  | 43 => .array .int
  | 44 => .array .int
  | 45 => .array .int
  | 46 => .array .int
  | 47 => .array .int
  | 48 => .array .int
  | 49 => .array .int
  | 50 => .array .int
  | 51 => .array .int
  | 52 => .array .int
  | 53 => .array .int
  | 54 => .array .int
  | 55 => .array .int
  | 56 => .array .boolean
  | 57 => .array .int
  | 58 => .array .int
  | 59 => .array .int
  | 60 => .array .int
  | 61 => .array .int
  | 62 => .array .int
  | 63 => .array .int
  | 64 => .array .int
  | 65 => .array .int
  | 66 => .array .int
  | 67 => .int
  | 68 => .array .int
  | 69 => .array .int
  | 70 => .array .int
  | 71 => .array .int
  | 72 => .array .int
  | 73 => .array .int
  | 74 => .array .int
  | 75 => .int
  | 76 => .int
  | 77 => .int
  | 78 => .int
  | 79 => .array .int
  | 80 => .int
  | 81 => .array .int
  | 82 => .array .int
  | 83 => .array .int
  | 84 => .array .int
  | 85 => .array .int
  | 86 => .array .int
  | 87 => .array .int
  | 88 => .array .int
  | 89 => .int
  | 90 => .array .int
  | 91 => .array .int
  | 92 => .array .int
  | 93 => .array .boolean
  | 94 => .array .int
  | _ => .array .int
theorem nmX20 : ∀ a, a < 96 → ∀ b, b < 96 → a ≠ b → (TX20 a).2.1 ≠ (TX20 b).2.1 := by decide +kernel
theorem tyX20_ok : ∀ k, k < 96 → parseFieldDescriptor (TX20 k).2.2.1 = some (tyX20 k) := by decide +kernel
abbrev cX20_init : ByteArray := prog_14_method_1_code
def yX20_init : MethodName := ⟨RX20, "<init>", "()V"⟩
abbrev cX20_thrown : ByteArray := prog_14_method_2_code
def yX20_thrown : MethodName := ⟨RX20, "thrown", "()I"⟩
abbrev cX20_in : ByteArray := prog_14_method_3_code
def yX20_in : MethodName := ⟨RX20, "in", "(JJJ)Z"⟩
abbrev cX20_fine : ByteArray := prog_14_method_4_code
def yX20_fine : MethodName := ⟨RX20, "fine", "(Z)Z"⟩
abbrev cX20_fine_ : ByteArray := prog_14_method_5_code
def yX20_fine_ : MethodName := ⟨RX20, "fine", "(ZZ)Z"⟩
abbrev cX20_fine__ : ByteArray := prog_14_method_6_code
def yX20_fine__ : MethodName := ⟨RX20, "fine", "(ZZZ)Z"⟩
abbrev cX20_tapeLength : ByteArray := prog_14_method_7_code
def yX20_tapeLength : MethodName := ⟨RX20, "tapeLength", "()I"⟩
abbrev cX20_tapeAt : ByteArray := prog_14_method_8_code
def yX20_tapeAt : MethodName := ⟨RX20, "tapeAt", "(I)I"⟩
abbrev cX20_tapeDrops : ByteArray := prog_14_method_9_code
def yX20_tapeDrops : MethodName := ⟨RX20, "tapeDrops", "(I)V"⟩
abbrev cX20_bytesOf : ByteArray := prog_14_method_10_code
def yX20_bytesOf : MethodName := ⟨RX20, "bytesOf", "(J)I"⟩
abbrev cX20_puts : ByteArray := prog_14_method_11_code
def yX20_puts : MethodName := ⟨RX20, "puts", "(J)V"⟩
abbrev cX20_type : ByteArray := prog_14_method_12_code
def yX20_type : MethodName := ⟨RX20, "type", "(JJJJJJ)I"⟩
abbrev cX20_put : ByteArray := prog_14_method_13_code
def yX20_put : MethodName := ⟨RX20, "put", "(II)I"⟩
abbrev cX20_pieceOf : ByteArray := prog_14_method_14_code
def yX20_pieceOf : MethodName := ⟨RX20, "pieceOf", "(I)Ljava/lang/String;"⟩
abbrev cX20_piece : ByteArray := prog_14_method_15_code
def yX20_piece : MethodName := ⟨RX20, "piece", "(I)I"⟩
abbrev cX20_clear : ByteArray := prog_14_method_16_code
def yX20_clear : MethodName := ⟨RX20, "clear", "()I"⟩
abbrev cX20_added : ByteArray := prog_14_method_17_code
def yX20_added : MethodName := ⟨RX20, "added", "(I[III)I"⟩
abbrev cX20_sumOf : ByteArray := prog_14_method_18_code
def yX20_sumOf : MethodName := ⟨RX20, "sumOf", "([III)I"⟩
abbrev cX20_sumOver : ByteArray := prog_14_method_19_code
def yX20_sumOver : MethodName := ⟨RX20, "sumOver", "(III[III)I"⟩
abbrev cX20_sum : ByteArray := prog_14_method_20_code
def yX20_sum : MethodName := ⟨RX20, "sum", "(II)I"⟩
abbrev cX20_mssOf : ByteArray := prog_14_method_21_code
def yX20_mssOf : MethodName := ⟨RX20, "mssOf", "(I)I"⟩
abbrev cX20_addHost : ByteArray := prog_14_method_22_code
def yX20_addHost : MethodName := ⟨RX20, "addHost", "(II)I"⟩
abbrev cX20_setMtu : ByteArray := prog_14_method_23_code
def yX20_setMtu : MethodName := ⟨RX20, "setMtu", "(II)I"⟩
abbrev cX20_hostAt : ByteArray := prog_14_method_24_code
def yX20_hostAt : MethodName := ⟨RX20, "hostAt", "(II)I"⟩
abbrev cX20_addressOf : ByteArray := prog_14_method_25_code
def yX20_addressOf : MethodName := ⟨RX20, "addressOf", "(I)I"⟩
abbrev cX20_hostWith : ByteArray := prog_14_method_26_code
def yX20_hostWith : MethodName := ⟨RX20, "hostWith", "(I)I"⟩
abbrev cX20_hardwareOf : ByteArray := prog_14_method_27_code
def yX20_hardwareOf : MethodName := ⟨RX20, "hardwareOf", "(I)J"⟩
abbrev cX20_knownOf : ByteArray := prog_14_method_28_code
def yX20_knownOf : MethodName := ⟨RX20, "knownOf", "(LLanternserverModel$Host;I)LLanternserverModel$Known;"⟩
abbrev cX20_tableAt : ByteArray := prog_14_method_29_code
def yX20_tableAt : MethodName := ⟨RX20, "tableAt", "(II)I"⟩
abbrev cX20_puts_ : ByteArray := prog_14_method_30_code
def yX20_puts_ : MethodName := ⟨RX20, "puts", "([IIJI)V"⟩
abbrev cX20_number : ByteArray := prog_14_method_31_code
def yX20_number : MethodName := ⟨RX20, "number", "([III)J"⟩
abbrev cX20_toWire : ByteArray := prog_14_method_32_code
def yX20_toWire : MethodName := ⟨RX20, "toWire", "(LLanternserverModel$Frame;)V"⟩
abbrev cX20_frame : ByteArray := prog_14_method_33_code
def yX20_frame : MethodName := ⟨RX20, "frame", "(IJI[IZ)V"⟩
abbrev cX20_takenOff : ByteArray := prog_14_method_34_code
def yX20_takenOff : MethodName := ⟨RX20, "takenOff", "(I)LLanternserverModel$Frame;"⟩
abbrev cX20_delivers : ByteArray := prog_14_method_35_code
def yX20_delivers : MethodName := ⟨RX20, "delivers", "(I)I"⟩
abbrev cX20_deliver : ByteArray := prog_14_method_36_code
def yX20_deliver : MethodName := ⟨RX20, "deliver", "(I)I"⟩
abbrev cX20_lose : ByteArray := prog_14_method_37_code
def yX20_lose : MethodName := ⟨RX20, "lose", "(I)I"⟩
abbrev cX20_twice : ByteArray := prog_14_method_38_code
def yX20_twice : MethodName := ⟨RX20, "twice", "(I)I"⟩
abbrev cX20_spoil : ByteArray := prog_14_method_39_code
def yX20_spoil : MethodName := ⟨RX20, "spoil", "(III)I"⟩
abbrev cX20_frameAt : ByteArray := prog_14_method_40_code
def yX20_frameAt : MethodName := ⟨RX20, "frameAt", "(II)I"⟩
abbrev cX20_byteAt : ByteArray := prog_14_method_41_code
def yX20_byteAt : MethodName := ⟨RX20, "byteAt", "(II)I"⟩
abbrev cX20_copy : ByteArray := prog_14_method_42_code
def yX20_copy : MethodName := ⟨RX20, "copy", "([III)[I"⟩
abbrev cX20_takes : ByteArray := prog_14_method_43_code
def yX20_takes : MethodName := ⟨RX20, "takes", "(I[I)V"⟩
abbrev cX20_message : ByteArray := prog_14_method_44_code
def yX20_message : MethodName := ⟨RX20, "message", "(IJIJI)[I"⟩
abbrev cX20_takesMessage : ByteArray := prog_14_method_45_code
def yX20_takesMessage : MethodName := ⟨RX20, "takesMessage", "(I[I)Z"⟩
abbrev cX20_keeps : ByteArray := prog_14_method_46_code
def yX20_keeps : MethodName := ⟨RX20, "keeps", "(LLanternserverModel$Host;LLanternserverModel$Known;IJ)V"⟩
abbrev cX20_sendsWaiting : ByteArray := prog_14_method_47_code
def yX20_sendsWaiting : MethodName := ⟨RX20, "sendsWaiting", "(IIJ)V"⟩
abbrev cX20_sendsRows : ByteArray := prog_14_method_48_code
def yX20_sendsRows : MethodName := ⟨RX20, "sendsRows", "(IJ[[I)V"⟩
abbrev cX20_datagram : ByteArray := prog_14_method_49_code
def yX20_datagram : MethodName := ⟨RX20, "datagram", "(III[IIIZ)[I"⟩
abbrev cX20_sends : ByteArray := prog_14_method_50_code
def yX20_sends : MethodName := ⟨RX20, "sends", "(III[II)V"⟩
abbrev cX20_records : ByteArray := prog_14_method_51_code
def yX20_records : MethodName := ⟨RX20, "records", "(LLanternserverModel$Host;II[I)V"⟩
abbrev cX20_takesDatagram : ByteArray := prog_14_method_52_code
def yX20_takesDatagram : MethodName := ⟨RX20, "takesDatagram", "(I[I)Z"⟩
abbrev cX20_partOf : ByteArray := prog_14_method_53_code
def yX20_partOf : MethodName := ⟨RX20, "partOf", "(LLanternserverModel$Host;III)I"⟩
abbrev cX20_forgets : ByteArray := prog_14_method_54_code
def yX20_forgets : MethodName := ⟨RX20, "forgets", "(LLanternserverModel$Host;I)V"⟩
abbrev cX20_puts__ : ByteArray := prog_14_method_55_code
def yX20_puts__ : MethodName := ⟨RX20, "puts", "(III[IIIZ)V"⟩
abbrev cX20_areLike : ByteArray := prog_14_method_56_code
def yX20_areLike : MethodName := ⟨RX20, "areLike", "([I[I)Z"⟩
abbrev cX20_hasNoSum : ByteArray := prog_14_method_57_code
def yX20_hasNoSum : MethodName := ⟨RX20, "hasNoSum", "(I[I)Z"⟩
abbrev cX20_isRight : ByteArray := prog_14_method_58_code
def yX20_isRight : MethodName := ⟨RX20, "isRight", "(III[I)Z"⟩
abbrev cX20_wasSent : ByteArray := prog_14_method_59_code
def yX20_wasSent : MethodName := ⟨RX20, "wasSent", "(IIII[I)Z"⟩
abbrev cX20_took : ByteArray := prog_14_method_60_code
def yX20_took : MethodName := ⟨RX20, "took", "(IIII[I)V"⟩
abbrev cX20_wireErrors : ByteArray := prog_14_method_61_code
def yX20_wireErrors : MethodName := ⟨RX20, "wireErrors", "()I"⟩
abbrev cX20_fits : ByteArray := prog_14_method_62_code
def yX20_fits : MethodName := ⟨RX20, "fits", "([IZ)Z"⟩
abbrev cX20_echoRow : ByteArray := prog_14_method_63_code
def yX20_echoRow : MethodName := ⟨RX20, "echoRow", "(II)[I"⟩
abbrev cX20_echo : ByteArray := prog_14_method_64_code
def yX20_echo : MethodName := ⟨RX20, "echo", "(III)I"⟩
abbrev cX20_isAnswered : ByteArray := prog_14_method_65_code
def yX20_isAnswered : MethodName := ⟨RX20, "isAnswered", "(I)Z"⟩
abbrev cX20_echoComes : ByteArray := prog_14_method_66_code
def yX20_echoComes : MethodName := ⟨RX20, "echoComes", "(II[I)V"⟩
abbrev cX20_isNameByte : ByteArray := prog_14_method_67_code
def yX20_isNameByte : MethodName := ⟨RX20, "isNameByte", "(I)Z"⟩
abbrev cX20_nameOnTape : ByteArray := prog_14_method_68_code
def yX20_nameOnTape : MethodName := ⟨RX20, "nameOnTape", "()[I"⟩
abbrev cX20_hostNamed : ByteArray := prog_14_method_69_code
def yX20_hostNamed : MethodName := ⟨RX20, "hostNamed", "([I)I"⟩
abbrev cX20_partsOf : ByteArray := prog_14_method_70_code
def yX20_partsOf : MethodName := ⟨RX20, "partsOf", "([I)I"⟩
abbrev cX20_name : ByteArray := prog_14_method_71_code
def yX20_name : MethodName := ⟨RX20, "name", "(I)I"⟩
abbrev cX20_question : ByteArray := prog_14_method_72_code
def yX20_question : MethodName := ⟨RX20, "question", "([I)[I"⟩
abbrev cX20_joined : ByteArray := prog_14_method_73_code
def yX20_joined : MethodName := ⟨RX20, "joined", "([I[I)[I"⟩
abbrev cX20_start : ByteArray := prog_14_method_74_code
def yX20_start : MethodName := ⟨RX20, "start", "(III)[I"⟩
abbrev cX20_sendsByPorts : ByteArray := prog_14_method_75_code
def yX20_sendsByPorts : MethodName := ⟨RX20, "sendsByPorts", "(IIII[I)V"⟩
abbrev cX20_asks : ByteArray := prog_14_method_76_code
def yX20_asks : MethodName := ⟨RX20, "asks", "(I)V"⟩
abbrev cX20_lookUp : ByteArray := prog_14_method_77_code
def yX20_lookUp : MethodName := ⟨RX20, "lookUp", "(I)I"⟩
abbrev cX20_askAgain : ByteArray := prog_14_method_78_code
def yX20_askAgain : MethodName := ⟨RX20, "askAgain", "(I)V"⟩
abbrev cX20_found : ByteArray := prog_14_method_79_code
def yX20_found : MethodName := ⟨RX20, "found", "(I)I"⟩
abbrev cX20_nameComes : ByteArray := prog_14_method_80_code
def yX20_nameComes : MethodName := ⟨RX20, "nameComes", "(II[I)V"⟩
abbrev cX20_nameIn : ByteArray := prog_14_method_81_code
def yX20_nameIn : MethodName := ⟨RX20, "nameIn", "([I)[I"⟩
abbrev cX20_questionComes : ByteArray := prog_14_method_82_code
def yX20_questionComes : MethodName := ⟨RX20, "questionComes", "(II[I)V"⟩
abbrev cX20_place : ByteArray := prog_14_method_83_code
def yX20_place : MethodName := ⟨RX20, "place", "(I)[I"⟩
abbrev cX20_answerComes : ByteArray := prog_14_method_84_code
def yX20_answerComes : MethodName := ⟨RX20, "answerComes", "(II[I)V"⟩
abbrev cX20_tick : ByteArray := prog_14_method_85_code
def yX20_tick : MethodName := ⟨RX20, "tick", "()V"⟩
abbrev cX20_pass : ByteArray := prog_14_method_86_code
def yX20_pass : MethodName := ⟨RX20, "pass", "(I)I"⟩
abbrev cX20_settle : ByteArray := prog_14_method_87_code
def yX20_settle : MethodName := ⟨RX20, "settle", "(I)I"⟩
abbrev cX20_draw : ByteArray := prog_14_method_88_code
def yX20_draw : MethodName := ⟨RX20, "draw", "(I)I"⟩
abbrev cX20_play : ByteArray := prog_14_method_89_code
def yX20_play : MethodName := ⟨RX20, "play", "(II)I"⟩
abbrev cX20_countOfWire : ByteArray := prog_14_method_90_code
def yX20_countOfWire : MethodName := ⟨RX20, "countOfWire", "(I)I"⟩
abbrev cX20_isAhead : ByteArray := prog_14_method_91_code
def yX20_isAhead : MethodName := ⟨RX20, "isAhead", "(II)Z"⟩
abbrev cX20_isLine : ByteArray := prog_14_method_92_code
def yX20_isLine : MethodName := ⟨RX20, "isLine", "(I)Z"⟩
abbrev cX20_two : ByteArray := prog_14_method_93_code
def yX20_two : MethodName := ⟨RX20, "two", "([III)V"⟩
abbrev cX20_four : ByteArray := prog_14_method_94_code
def yX20_four : MethodName := ⟨RX20, "four", "([III)V"⟩
abbrev cX20_twoAt : ByteArray := prog_14_method_95_code
def yX20_twoAt : MethodName := ⟨RX20, "twoAt", "([II)I"⟩
abbrev cX20_fourAt : ByteArray := prog_14_method_96_code
def yX20_fourAt : MethodName := ⟨RX20, "fourAt", "([II)I"⟩
abbrev cX20_sendSegment : ByteArray := prog_14_method_97_code
def yX20_sendSegment : MethodName := ⟨RX20, "sendSegment", "(IIIIIIIIILLanternserverModel$Bytes;II)V"⟩
abbrev cX20_sendOn : ByteArray := prog_14_method_98_code
def yX20_sendOn : MethodName := ⟨RX20, "sendOn", "(LLanternserverModel$Line;IIII)V"⟩
abbrev cX20_acknowledges : ByteArray := prog_14_method_99_code
def yX20_acknowledges : MethodName := ⟨RX20, "acknowledges", "(LLanternserverModel$Line;)V"⟩
abbrev cX20_resets : ByteArray := prog_14_method_100_code
def yX20_resets : MethodName := ⟨RX20, "resets", "(LLanternserverModel$Line;I)V"⟩
abbrev cX20_timesAnew : ByteArray := prog_14_method_101_code
def yX20_timesAnew : MethodName := ⟨RX20, "timesAnew", "(LLanternserverModel$Line;)V"⟩
abbrev cX20_sendBytes : ByteArray := prog_14_method_102_code
def yX20_sendBytes : MethodName := ⟨RX20, "sendBytes", "(LLanternserverModel$Line;I)V"⟩
abbrev cX20_sendsAll : ByteArray := prog_14_method_103_code
def yX20_sendsAll : MethodName := ⟨RX20, "sendsAll", "(LLanternserverModel$Line;)V"⟩
abbrev cX20_sendsAgain : ByteArray := prog_14_method_104_code
def yX20_sendsAgain : MethodName := ⟨RX20, "sendsAgain", "(LLanternserverModel$Line;)V"⟩
abbrev cX20_shrinks : ByteArray := prog_14_method_105_code
def yX20_shrinks : MethodName := ⟨RX20, "shrinks", "(LLanternserverModel$Line;Z)V"⟩
abbrev cX20_isOver : ByteArray := prog_14_method_106_code
def yX20_isOver : MethodName := ⟨RX20, "isOver", "(LLanternserverModel$Line;)V"⟩
abbrev cX20_doesATimerRun : ByteArray := prog_14_method_107_code
def yX20_doesATimerRun : MethodName := ⟨RX20, "doesATimerRun", "()Z"⟩
abbrev cX20_connectionsTick : ByteArray := prog_14_method_108_code
def yX20_connectionsTick : MethodName := ⟨RX20, "connectionsTick", "(I)V"⟩
abbrev cX20_lineOf : ByteArray := prog_14_method_109_code
def yX20_lineOf : MethodName := ⟨RX20, "lineOf", "(IIII)LLanternserverModel$Line;"⟩
abbrev cX20_toldMss : ByteArray := prog_14_method_110_code
def yX20_toldMss : MethodName := ⟨RX20, "toldMss", "([III)I"⟩
abbrev cX20_has : ByteArray := prog_14_method_111_code
def yX20_has : MethodName := ⟨RX20, "has", "(I)Z"⟩
abbrev cX20_segment : ByteArray := prog_14_method_112_code
def yX20_segment : MethodName := ⟨RX20, "segment", "(II[III)V"⟩
abbrev cX20_openOfServer : ByteArray := prog_14_method_113_code
def yX20_openOfServer : MethodName := ⟨RX20, "openOfServer", "()I"⟩
abbrev cX20_comesToNone : ByteArray := prog_14_method_114_code
def yX20_comesToNone : MethodName := ⟨RX20, "comesToNone", "(IIIII)V"⟩
abbrev cX20_beginner : ByteArray := prog_14_method_115_code
def yX20_beginner : MethodName := ⟨RX20, "beginner", "(LLanternserverModel$Line;)I"⟩
abbrev cX20_comes : ByteArray := prog_14_method_116_code
def yX20_comes : MethodName := ⟨RX20, "comes", "(LLanternserverModel$Line;I)V"⟩
abbrev cX20_establishes : ByteArray := prog_14_method_117_code
def yX20_establishes : MethodName := ⟨RX20, "establishes", "(LLanternserverModel$Line;)V"⟩
abbrev cX20_answers : ByteArray := prog_14_method_118_code
def yX20_answers : MethodName := ⟨RX20, "answers", "(LLanternserverModel$Line;I)V"⟩
abbrev cX20_answerer : ByteArray := prog_14_method_119_code
def yX20_answerer : MethodName := ⟨RX20, "answerer", "(LLanternserverModel$Line;)I"⟩
abbrev cX20_isAcknowledged : ByteArray := prog_14_method_120_code
def yX20_isAcknowledged : MethodName := ⟨RX20, "isAcknowledged", "(LLanternserverModel$Line;)Z"⟩
abbrev cX20_grows : ByteArray := prog_14_method_121_code
def yX20_grows : MethodName := ⟨RX20, "grows", "(LLanternserverModel$Line;)V"⟩
abbrev cX20_measures : ByteArray := prog_14_method_122_code
def yX20_measures : MethodName := ⟨RX20, "measures", "(LLanternserverModel$Line;)V"⟩
abbrev cX20_isFinGone : ByteArray := prog_14_method_123_code
def yX20_isFinGone : MethodName := ⟨RX20, "isFinGone", "(LLanternserverModel$Line;)Z"⟩
abbrev cX20_takesBytes : ByteArray := prog_14_method_124_code
def yX20_takesBytes : MethodName := ⟨RX20, "takesBytes", "(LLanternserverModel$Line;)V"⟩
abbrev cX20_keeps_ : ByteArray := prog_14_method_125_code
def yX20_keeps_ : MethodName := ⟨RX20, "keeps", "(LLanternserverModel$Line;I)V"⟩
abbrev cX20_putsInOrder : ByteArray := prog_14_method_126_code
def yX20_putsInOrder : MethodName := ⟨RX20, "putsInOrder", "(LLanternserverModel$Line;)V"⟩
abbrev cX20_finComes : ByteArray := prog_14_method_127_code
def yX20_finComes : MethodName := ⟨RX20, "finComes", "(LLanternserverModel$Line;)V"⟩
abbrev cX20_isToRead : ByteArray := prog_14_method_128_code
def yX20_isToRead : MethodName := ⟨RX20, "isToRead", "(I)I"⟩
abbrev cX20_reads : ByteArray := prog_14_method_129_code
def yX20_reads : MethodName := ⟨RX20, "reads", "(LLanternserverModel$Line;I)V"⟩
abbrev cX20_takes_ : ByteArray := prog_14_method_130_code
def yX20_takes_ : MethodName := ⟨RX20, "takes", "(I)I"⟩
abbrev cX20_hasEnded : ByteArray := prog_14_method_131_code
def yX20_hasEnded : MethodName := ⟨RX20, "hasEnded", "(I)Z"⟩
abbrev cX20_room : ByteArray := prog_14_method_132_code
def yX20_room : MethodName := ⟨RX20, "room", "(I)I"⟩
abbrev cX20_writes : ByteArray := prog_14_method_133_code
def yX20_writes : MethodName := ⟨RX20, "writes", "(II)V"⟩
abbrev cX20_isOpen : ByteArray := prog_14_method_134_code
def yX20_isOpen : MethodName := ⟨RX20, "isOpen", "(I)Z"⟩
abbrev cX20_closes : ByteArray := prog_14_method_135_code
def yX20_closes : MethodName := ⟨RX20, "closes", "(I)V"⟩
abbrev cX20_aborts : ByteArray := prog_14_method_136_code
def yX20_aborts : MethodName := ⟨RX20, "aborts", "(LLanternserverModel$Line;)V"⟩
abbrev cX20_hostOfLine : ByteArray := prog_14_method_137_code
def yX20_hostOfLine : MethodName := ⟨RX20, "hostOfLine", "(I)I"⟩
abbrev cX20_writtenMany : ByteArray := prog_14_method_138_code
def yX20_writtenMany : MethodName := ⟨RX20, "writtenMany", "(I)I"⟩
abbrev cX20_writtenAt : ByteArray := prog_14_method_139_code
def yX20_writtenAt : MethodName := ⟨RX20, "writtenAt", "(II)I"⟩
abbrev cX20_readMany : ByteArray := prog_14_method_140_code
def yX20_readMany : MethodName := ⟨RX20, "readMany", "(I)I"⟩
abbrev cX20_readByte : ByteArray := prog_14_method_141_code
def yX20_readByte : MethodName := ⟨RX20, "readByte", "(II)I"⟩
abbrev cX20_otherEnd : ByteArray := prog_14_method_142_code
def yX20_otherEnd : MethodName := ⟨RX20, "otherEnd", "(I)I"⟩
abbrev cX20_isHost : ByteArray := prog_14_method_143_code
def yX20_isHost : MethodName := ⟨RX20, "isHost", "(I)Z"⟩
abbrev cX20_connect : ByteArray := prog_14_method_144_code
def yX20_connect : MethodName := ⟨RX20, "connect", "(III)I"⟩
abbrev cX20_canWrite : ByteArray := prog_14_method_145_code
def yX20_canWrite : MethodName := ⟨RX20, "canWrite", "(LLanternserverModel$Line;)Z"⟩
abbrev cX20_write : ByteArray := prog_14_method_146_code
def yX20_write : MethodName := ⟨RX20, "write", "(I)I"⟩
abbrev cX20_read : ByteArray := prog_14_method_147_code
def yX20_read : MethodName := ⟨RX20, "read", "(II)I"⟩
abbrev cX20_readAt : ByteArray := prog_14_method_148_code
def yX20_readAt : MethodName := ⟨RX20, "readAt", "(II)I"⟩
abbrev cX20_close : ByteArray := prog_14_method_149_code
def yX20_close : MethodName := ⟨RX20, "close", "(IZ)I"⟩
abbrev cX20_connectionAt : ByteArray := prog_14_method_150_code
def yX20_connectionAt : MethodName := ⟨RX20, "connectionAt", "(II)I"⟩
abbrev cX20_countOfLines : ByteArray := prog_14_method_151_code
def yX20_countOfLines : MethodName := ⟨RX20, "countOfLines", "(I)I"⟩
abbrev cX20_lineErrors : ByteArray := prog_14_method_152_code
def yX20_lineErrors : MethodName := ⟨RX20, "lineErrors", "()I"⟩
abbrev cX20_textLong : ByteArray := prog_14_method_153_code
def yX20_textLong : MethodName := ⟨RX20, "textLong", "(I)I"⟩
abbrev cX20_textAt : ByteArray := prog_14_method_154_code
def yX20_textAt : MethodName := ⟨RX20, "textAt", "(II)I"⟩
abbrev cX20_beginsRequest : ByteArray := prog_14_method_155_code
def yX20_beginsRequest : MethodName := ⟨RX20, "beginsRequest", "(I)V"⟩
abbrev cX20_isGreat : ByteArray := prog_14_method_156_code
def yX20_isGreat : MethodName := ⟨RX20, "isGreat", "(I)Z"⟩
abbrev cX20_isSmall : ByteArray := prog_14_method_157_code
def yX20_isSmall : MethodName := ⟨RX20, "isSmall", "(I)Z"⟩
abbrev cX20_small : ByteArray := prog_14_method_158_code
def yX20_small : MethodName := ⟨RX20, "small", "(I)I"⟩
abbrev cX20_fitting : ByteArray := prog_14_method_159_code
def yX20_fitting : MethodName := ⟨RX20, "fitting", "(IIII)I"⟩
abbrev cX20_through : ByteArray := prog_14_method_160_code
def yX20_through : MethodName := ⟨RX20, "through", "(III)I"⟩
abbrev cX20_nextWord : ByteArray := prog_14_method_161_code
def yX20_nextWord : MethodName := ⟨RX20, "nextWord", "(III)V"⟩
abbrev cX20_looksAt : ByteArray := prog_14_method_162_code
def yX20_looksAt : MethodName := ⟨RX20, "looksAt", "(II)I"⟩
abbrev cX20_looksInLine : ByteArray := prog_14_method_163_code
def yX20_looksInLine : MethodName := ⟨RX20, "looksInLine", "(II)I"⟩
abbrev cX20_stands : ByteArray := prog_14_method_164_code
def yX20_stands : MethodName := ⟨RX20, "stands", "(II)Z"⟩
abbrev cX20_takesMethod : ByteArray := prog_14_method_165_code
def yX20_takesMethod : MethodName := ⟨RX20, "takesMethod", "(II)V"⟩
abbrev cX20_takesTarget : ByteArray := prog_14_method_166_code
def yX20_takesTarget : MethodName := ⟨RX20, "takesTarget", "(II)V"⟩
abbrev cX20_takesVersion : ByteArray := prog_14_method_167_code
def yX20_takesVersion : MethodName := ⟨RX20, "takesVersion", "(II)V"⟩
abbrev cX20_looksAtLine : ByteArray := prog_14_method_168_code
def yX20_looksAtLine : MethodName := ⟨RX20, "looksAtLine", "(II)I"⟩
abbrev cX20_takesName : ByteArray := prog_14_method_169_code
def yX20_takesName : MethodName := ⟨RX20, "takesName", "(II)V"⟩
abbrev cX20_takesValue : ByteArray := prog_14_method_170_code
def yX20_takesValue : MethodName := ⟨RX20, "takesValue", "(II)V"⟩
abbrev cX20_valueAt : ByteArray := prog_14_method_171_code
def yX20_valueAt : MethodName := ⟨RX20, "valueAt", "(II)I"⟩
abbrev cX20_isValue : ByteArray := prog_14_method_172_code
def yX20_isValue : MethodName := ⟨RX20, "isValue", "(II)Z"⟩
abbrev cX20_endsLine : ByteArray := prog_14_method_173_code
def yX20_endsLine : MethodName := ⟨RX20, "endsLine", "(I)V"⟩
abbrev cX20_number_ : ByteArray := prog_14_method_174_code
def yX20_number_ : MethodName := ⟨RX20, "number", "(II)I"⟩
abbrev cX20_tellsLength : ByteArray := prog_14_method_175_code
def yX20_tellsLength : MethodName := ⟨RX20, "tellsLength", "(I)V"⟩
abbrev cX20_tagOf : ByteArray := prog_14_method_176_code
def yX20_tagOf : MethodName := ⟨RX20, "tagOf", "(I)I"⟩
abbrev cX20_tellsRange : ByteArray := prog_14_method_177_code
def yX20_tellsRange : MethodName := ⟨RX20, "tellsRange", "(I)V"⟩
abbrev cX20_endsHead : ByteArray := prog_14_method_178_code
def yX20_endsHead : MethodName := ⟨RX20, "endsHead", "(I)I"⟩
abbrev cX20_takesBody : ByteArray := prog_14_method_179_code
def yX20_takesBody : MethodName := ⟨RX20, "takesBody", "(II)V"⟩
abbrev cX20_hexadecimal : ByteArray := prog_14_method_180_code
def yX20_hexadecimal : MethodName := ⟨RX20, "hexadecimal", "(I)I"⟩
abbrev cX20_goesTo : ByteArray := prog_14_method_181_code
def yX20_goesTo : MethodName := ⟨RX20, "goesTo", "(II)I"⟩
abbrev cX20_looksInChunks : ByteArray := prog_14_method_182_code
def yX20_looksInChunks : MethodName := ⟨RX20, "looksInChunks", "(II)I"⟩
abbrev cX20_looksAtSize : ByteArray := prog_14_method_183_code
def yX20_looksAtSize : MethodName := ⟨RX20, "looksAtSize", "(II)I"⟩
abbrev cX20_targetAt : ByteArray := prog_14_method_184_code
def yX20_targetAt : MethodName := ⟨RX20, "targetAt", "(II)I"⟩
abbrev cX20_targetKind : ByteArray := prog_14_method_185_code
def yX20_targetKind : MethodName := ⟨RX20, "targetKind", "(I)I"⟩
abbrev cX20_compares : ByteArray := prog_14_method_186_code
def yX20_compares : MethodName := ⟨RX20, "compares", "(II)I"⟩
abbrev cX20_fileOf : ByteArray := prog_14_method_187_code
def yX20_fileOf : MethodName := ⟨RX20, "fileOf", "(II)I"⟩
abbrev cX20_copiesFile : ByteArray := prog_14_method_188_code
def yX20_copiesFile : MethodName := ⟨RX20, "copiesFile", "(II)V"⟩
abbrev cX20_newFile : ByteArray := prog_14_method_189_code
def yX20_newFile : MethodName := ⟨RX20, "newFile", "(II)I"⟩
abbrev cX20_dropsFile : ByteArray := prog_14_method_190_code
def yX20_dropsFile : MethodName := ⟨RX20, "dropsFile", "(II)V"⟩
abbrev cX20_putsBody : ByteArray := prog_14_method_191_code
def yX20_putsBody : MethodName := ⟨RX20, "putsBody", "(III)V"⟩
abbrev cX20_fitsTag : ByteArray := prog_14_method_192_code
def yX20_fitsTag : MethodName := ⟨RX20, "fitsTag", "(II)Z"⟩
abbrev cX20_isRefused : ByteArray := prog_14_method_193_code
def yX20_isRefused : MethodName := ⟨RX20, "isRefused", "(II)Z"⟩
abbrev cX20_isDone : ByteArray := prog_14_method_194_code
def yX20_isDone : MethodName := ⟨RX20, "isDone", "(II)I"⟩
abbrev cX20_isPut : ByteArray := prog_14_method_195_code
def yX20_isPut : MethodName := ⟨RX20, "isPut", "(III)I"⟩
abbrev cX20_range : ByteArray := prog_14_method_196_code
def yX20_range : MethodName := ⟨RX20, "range", "(II)I"⟩
abbrev cX20_grown : ByteArray := prog_14_method_197_code
def yX20_grown : MethodName := ⟨RX20, "grown", "([I)[I"⟩
abbrev cX20_says : ByteArray := prog_14_method_198_code
def yX20_says : MethodName := ⟨RX20, "says", "(I)V"⟩
abbrev cX20_saysText : ByteArray := prog_14_method_199_code
def yX20_saysText : MethodName := ⟨RX20, "saysText", "(I)V"⟩
abbrev cX20_saysNumber : ByteArray := prog_14_method_200_code
def yX20_saysNumber : MethodName := ⟨RX20, "saysNumber", "(I)V"⟩
abbrev cX20_saysLineEnd : ByteArray := prog_14_method_201_code
def yX20_saysLineEnd : MethodName := ⟨RX20, "saysLineEnd", "()V"⟩
abbrev cX20_wordOf : ByteArray := prog_14_method_202_code
def yX20_wordOf : MethodName := ⟨RX20, "wordOf", "(I)I"⟩
abbrev cX20_listLong : ByteArray := prog_14_method_203_code
def yX20_listLong : MethodName := ⟨RX20, "listLong", "(I)I"⟩
abbrev cX20_answers_ : ByteArray := prog_14_method_204_code
def yX20_answers_ : MethodName := ⟨RX20, "answers", "(IIIZZ)V"⟩
abbrev cX20_saysPart : ByteArray := prog_14_method_205_code
def yX20_saysPart : MethodName := ⟨RX20, "saysPart", "(I)V"⟩
abbrev cX20_saysList : ByteArray := prog_14_method_206_code
def yX20_saysList : MethodName := ⟨RX20, "saysList", "(I)V"⟩
abbrev cX20_does : ByteArray := prog_14_method_207_code
def yX20_does : MethodName := ⟨RX20, "does", "(III)I"⟩
abbrev cX20_isLast : ByteArray := prog_14_method_208_code
def yX20_isLast : MethodName := ⟨RX20, "isLast", "(IZ)Z"⟩
abbrev cX20_serves : ByteArray := prog_14_method_209_code
def yX20_serves : MethodName := ⟨RX20, "serves", "(I)V"⟩
abbrev cX20_writesOn : ByteArray := prog_14_method_210_code
def yX20_writesOn : MethodName := ⟨RX20, "writesOn", "(I)V"⟩
abbrev cX20_servesOne : ByteArray := prog_14_method_211_code
def yX20_servesOne : MethodName := ⟨RX20, "servesOne", "(II)V"⟩
abbrev cX20_fileAt : ByteArray := prog_14_method_212_code
def yX20_fileAt : MethodName := ⟨RX20, "fileAt", "(II)I"⟩
abbrev cX20_fileByteAt : ByteArray := prog_14_method_213_code
def yX20_fileByteAt : MethodName := ⟨RX20, "fileByteAt", "(IZI)I"⟩
abbrev cX20_servedAt : ByteArray := prog_14_method_214_code
def yX20_servedAt : MethodName := ⟨RX20, "servedAt", "(II)I"⟩
abbrev cX20_answerAt : ByteArray := prog_14_method_215_code
def yX20_answerAt : MethodName := ⟨RX20, "answerAt", "(II)I"⟩
abbrev cX20_servedWell : ByteArray := prog_14_method_216_code
def yX20_servedWell : MethodName := ⟨RX20, "servedWell", "()I"⟩
abbrev cX20_count : ByteArray := prog_14_method_217_code
def yX20_count : MethodName := ⟨RX20, "count", "(I)I"⟩
abbrev cX20_isSameRequest : ByteArray := prog_14_method_218_code
def yX20_isSameRequest : MethodName := ⟨RX20, "isSameRequest", "(I)Z"⟩
abbrev cX20_isReadAsAnswered : ByteArray := prog_14_method_219_code
def yX20_isReadAsAnswered : MethodName := ⟨RX20, "isReadAsAnswered", "(II)Z"⟩
abbrev cX20_areFilesAlike : ByteArray := prog_14_method_220_code
def yX20_areFilesAlike : MethodName := ⟨RX20, "areFilesAlike", "()Z"⟩
abbrev cX20_agrees : ByteArray := prog_14_method_221_code
def yX20_agrees : MethodName := ⟨RX20, "agrees", "()Z"⟩
abbrev cX20_errors : ByteArray := prog_14_method_222_code
def yX20_errors : MethodName := ⟨RX20, "errors", "()I"⟩
abbrev cX20_deliveredShare : ByteArray := prog_14_method_223_code
def yX20_deliveredShare : MethodName := ⟨RX20, "deliveredShare", "()D"⟩
abbrev cX20_meanAnswer : ByteArray := prog_14_method_224_code
def yX20_meanAnswer : MethodName := ⟨RX20, "meanAnswer", "()F"⟩
def RJx145de : String := "java/io/Serializable"
def TJx145de : u_T := fun k => match k with
  | _ => ("", "", "", false)
def tyJx145de : Nat → FieldType := fun k => match k with
  | _ => .int
theorem nmJx145de : ∀ a, a < 0 → ∀ b, b < 0 → a ≠ b → (TJx145de a).2.1 ≠ (TJx145de b).2.1 := by decide +kernel
theorem tyJx145de_ok : ∀ k, k < 0 → parseFieldDescriptor (TJx145de k).2.2.1 = some (tyJx145de k) := by decide +kernel
def RJ5 : String := "java/lang/AbstractStringBuilder"
def TJ5 : u_T := fun k => match k with
  | _ => ("", "", "", false)
def tyJ5 : Nat → FieldType := fun k => match k with
  | _ => .int
theorem nmJ5 : ∀ a, a < 0 → ∀ b, b < 0 → a ≠ b → (TJ5 a).2.1 ≠ (TJ5 b).2.1 := by decide +kernel
theorem tyJ5_ok : ∀ k, k < 0 → parseFieldDescriptor (TJ5 k).2.2.1 = some (tyJ5 k) := by decide +kernel
abbrev cJ5_init_d00df : ByteArray := prog_24_method_2_code
def yJ5_init_d00df : MethodName := ⟨RJ5, "<init>", "(I)V"⟩
abbrev cJ5_length_8abf5 : ByteArray := prog_24_method_6_code
def yJ5_length_8abf5 : MethodName := ⟨RJ5, "length", "()I"⟩
abbrev cJ5_ensureCapacityInternal_d00df : ByteArray := prog_24_method_9_code
def yJ5_ensureCapacityInternal_d00df : MethodName := ⟨RJ5, "ensureCapacityInternal", "(I)V"⟩
abbrev cJ5_newCapacity_0f7a4 : ByteArray := prog_24_method_10_code
def yJ5_newCapacity_0f7a4 : MethodName := ⟨RJ5, "newCapacity", "(I)I"⟩
abbrev cJ5_inflate_da8c8 : ByteArray := prog_24_method_11_code
def yJ5_inflate_da8c8 : MethodName := ⟨RJ5, "inflate", "()V"⟩
abbrev cJ5_append_cf1ce : ByteArray := prog_24_method_22_code
def yJ5_append_cf1ce : MethodName := ⟨RJ5, "append", "(Ljava/lang/String;)Ljava/lang/AbstractStringBuilder;"⟩
abbrev cJ5_appendNull_278bc : ByteArray := prog_24_method_26_code
def yJ5_appendNull_278bc : MethodName := ⟨RJ5, "appendNull", "()Ljava/lang/AbstractStringBuilder;"⟩
abbrev cJ5_append_c97b9 : ByteArray := prog_24_method_32_code
def yJ5_append_c97b9 : MethodName := ⟨RJ5, "append", "(I)Ljava/lang/AbstractStringBuilder;"⟩
abbrev cJ5_getValue_6d5f1 : ByteArray := prog_24_method_64_code
def yJ5_getValue_6d5f1 : MethodName := ⟨RJ5, "getValue", "()[B"⟩
abbrev cJ5_isLatin1_aae02 : ByteArray := prog_24_method_68_code
def yJ5_isLatin1_aae02 : MethodName := ⟨RJ5, "isLatin1", "()Z"⟩
abbrev cJ5_inflateIfNeededFor_a7421 : ByteArray := prog_24_method_71_code
def yJ5_inflateIfNeededFor_a7421 : MethodName := ⟨RJ5, "inflateIfNeededFor", "(Ljava/lang/String;)V"⟩
abbrev cJ5_putStringAt_47b60 : ByteArray := prog_24_method_73_code
def yJ5_putStringAt_47b60 : MethodName := ⟨RJ5, "putStringAt", "(ILjava/lang/String;)V"⟩
def RJx2cfe8 : String := "java/lang/Appendable"
def TJx2cfe8 : u_T := fun k => match k with
  | _ => ("", "", "", false)
def tyJx2cfe8 : Nat → FieldType := fun k => match k with
  | _ => .int
theorem nmJx2cfe8 : ∀ a, a < 0 → ∀ b, b < 0 → a ≠ b → (TJx2cfe8 a).2.1 ≠ (TJx2cfe8 b).2.1 := by decide +kernel
theorem tyJx2cfe8_ok : ∀ k, k < 0 → parseFieldDescriptor (TJx2cfe8 k).2.2.1 = some (tyJx2cfe8 k) := by decide +kernel
def RJx00060 : String := "java/lang/ArrayIndexOutOfBoundsException"
def TJx00060 : u_T := fun k => match k with
  | 0 => ("java/lang/Throwable", "cause", "Ljava/lang/Throwable;", false)
  | 1 => ("java/lang/Throwable", "stackTrace", "[Ljava/lang/StackTraceElement;", false)
  | 2 => ("java/lang/Throwable", "suppressedExceptions", "Ljava/util/List;", false)
  | 3 => ("java/lang/Throwable", "detailMessage", "Ljava/lang/String;", false)
  | 4 => ("java/lang/Throwable", "backtrace", "Ljava/lang/Object;", false)
  | _ => ("java/lang/Throwable", "depth", "I", false)
def tyJx00060 : Nat → FieldType := fun k => match k with
  | 0 => .object "java/lang/Throwable"
  | 1 => .array (.object "java/lang/StackTraceElement")
  | 2 => .object "java/util/List"
  | 3 => .object "java/lang/String"
  | 4 => .object "java/lang/Object"
  | _ => .int
theorem nmJx00060 : ∀ a, a < 6 → ∀ b, b < 6 → a ≠ b → (TJx00060 a).2.1 ≠ (TJx00060 b).2.1 := by decide +kernel
theorem tyJx00060_ok : ∀ k, k < 6 → parseFieldDescriptor (TJx00060 k).2.2.1 = some (tyJx00060 k) := by decide +kernel
abbrev cJx00060_init_d00df : ByteArray := prog_26_method_3_code
def yJx00060_init_d00df : MethodName := ⟨RJx00060, "<init>", "(I)V"⟩
def RJx9f9b0 : String := "java/lang/CharSequence"
def TJx9f9b0 : u_T := fun k => match k with
  | _ => ("", "", "", false)
def tyJx9f9b0 : Nat → FieldType := fun k => match k with
  | _ => .int
theorem nmJx9f9b0 : ∀ a, a < 0 → ∀ b, b < 0 → a ≠ b → (TJx9f9b0 a).2.1 ≠ (TJx9f9b0 b).2.1 := by decide +kernel
theorem tyJx9f9b0_ok : ∀ k, k < 0 → parseFieldDescriptor (TJx9f9b0 k).2.2.1 = some (tyJx9f9b0 k) := by decide +kernel
def RJx8e188 : String := "java/lang/Cloneable"
def TJx8e188 : u_T := fun k => match k with
  | _ => ("", "", "", false)
def tyJx8e188 : Nat → FieldType := fun k => match k with
  | _ => .int
theorem nmJx8e188 : ∀ a, a < 0 → ∀ b, b < 0 → a ≠ b → (TJx8e188 a).2.1 ≠ (TJx8e188 b).2.1 := by decide +kernel
theorem tyJx8e188_ok : ∀ k, k < 0 → parseFieldDescriptor (TJx8e188 k).2.2.1 = some (tyJx8e188 k) := by decide +kernel
def RJxb160c : String := "java/lang/Comparable"
def TJxb160c : u_T := fun k => match k with
  | _ => ("", "", "", false)
def tyJxb160c : Nat → FieldType := fun k => match k with
  | _ => .int
theorem nmJxb160c : ∀ a, a < 0 → ∀ b, b < 0 → a ≠ b → (TJxb160c a).2.1 ≠ (TJxb160c b).2.1 := by decide +kernel
theorem tyJxb160c_ok : ∀ k, k < 0 → parseFieldDescriptor (TJxb160c k).2.2.1 = some (tyJxb160c k) := by decide +kernel
def RJ6 : String := "java/lang/Integer"
def TJ6 : u_T := fun k => match k with
  | _ => ("", "", "", false)
def tyJ6 : Nat → FieldType := fun k => match k with
  | _ => .int
theorem nmJ6 : ∀ a, a < 0 → ∀ b, b < 0 → a ≠ b → (TJ6 a).2.1 ≠ (TJ6 b).2.1 := by decide +kernel
theorem tyJ6_ok : ∀ k, k < 0 → parseFieldDescriptor (TJ6 k).2.2.1 = some (tyJ6 k) := by decide +kernel
abbrev cJ6_getChars_ba4f3 : ByteArray := prog_34_method_12_code
def yJ6_getChars_ba4f3 : MethodName := ⟨RJ6, "getChars", "(II[B)I"⟩
abbrev cJ6_stringSize_0f7a4 : ByteArray := prog_34_method_13_code
def yJ6_stringSize_0f7a4 : MethodName := ⟨RJ6, "stringSize", "(I)I"⟩
def RJxab1ab : String := "java/lang/Iterable"
def TJxab1ab : u_T := fun k => match k with
  | _ => ("", "", "", false)
def tyJxab1ab : Nat → FieldType := fun k => match k with
  | _ => .int
theorem nmJxab1ab : ∀ a, a < 0 → ∀ b, b < 0 → a ≠ b → (TJxab1ab a).2.1 ≠ (TJxab1ab b).2.1 := by decide +kernel
theorem tyJxab1ab_ok : ∀ k, k < 0 → parseFieldDescriptor (TJxab1ab k).2.2.1 = some (tyJxab1ab k) := by decide +kernel
def RJ9 : String := "java/lang/Math"
def TJ9 : u_T := fun k => match k with
  | _ => ("", "", "", false)
def tyJ9 : Nat → FieldType := fun k => match k with
  | _ => .int
theorem nmJ9 : ∀ a, a < 0 → ∀ b, b < 0 → a ≠ b → (TJ9 a).2.1 ≠ (TJ9 b).2.1 := by decide +kernel
theorem tyJ9_ok : ∀ k, k < 0 → parseFieldDescriptor (TJ9 k).2.2.1 = some (tyJ9 k) := by decide +kernel
abbrev cJ9_abs_0f7a4 : ByteArray := prog_36_method_59_code
def yJ9_abs_0f7a4 : MethodName := ⟨RJ9, "abs", "(I)I"⟩
abbrev cJ9_max_7cf53 : ByteArray := prog_36_method_65_code
def yJ9_max_7cf53 : MethodName := ⟨RJ9, "max", "(II)I"⟩
abbrev cJ9_min_7cf53 : ByteArray := prog_36_method_69_code
def yJ9_min_7cf53 : MethodName := ⟨RJ9, "min", "(II)I"⟩
def RJxd2413 : String := "java/lang/Number"
def TJxd2413 : u_T := fun k => match k with
  | _ => ("", "", "", false)
def tyJxd2413 : Nat → FieldType := fun k => match k with
  | _ => .int
theorem nmJxd2413 : ∀ a, a < 0 → ∀ b, b < 0 → a ≠ b → (TJxd2413 a).2.1 ≠ (TJxd2413 b).2.1 := by decide +kernel
theorem tyJxd2413_ok : ∀ k, k < 0 → parseFieldDescriptor (TJxd2413 k).2.2.1 = some (tyJxd2413 k) := by decide +kernel
def RJ0 : String := "java/lang/String"
def TJ0 : u_T := fun k => match k with
  | 0 => ("java/lang/String", "value", "[B", true)
  | 1 => ("java/lang/String", "coder", "B", true)
  | 2 => ("java/lang/String", "hash", "I", false)
  | _ => ("java/lang/String", "hashIsZero", "Z", false)
def tyJ0 : Nat → FieldType := fun k => match k with
  | 0 => .array .byte
  | 1 => .byte
  | 2 => .int
  | _ => .boolean
theorem nmJ0 : ∀ a, a < 4 → ∀ b, b < 4 → a ≠ b → (TJ0 a).2.1 ≠ (TJ0 b).2.1 := by decide +kernel
theorem tyJ0_ok : ∀ k, k < 4 → parseFieldDescriptor (TJ0 k).2.2.1 = some (tyJ0 k) := by decide +kernel
abbrev cJ0_init_81219 : ByteArray := prog_39_method_53_code
def yJ0_init_81219 : MethodName := ⟨RJ0, "<init>", "(Ljava/lang/StringBuilder;)V"⟩
abbrev cJ0_length_8abf5 : ByteArray := prog_39_method_54_code
def yJ0_length_8abf5 : MethodName := ⟨RJ0, "length", "()I"⟩
abbrev cJ0_charAt_5068e : ByteArray := prog_39_method_56_code
def yJ0_charAt_5068e : MethodName := ⟨RJ0, "charAt", "(I)C"⟩
abbrev cJ0_getBytes_840e7 : ByteArray := prog_39_method_147_code
def yJ0_getBytes_840e7 : MethodName := ⟨RJ0, "getBytes", "([BIB)V"⟩
abbrev cJ0_init_db425 : ByteArray := prog_39_method_150_code
def yJ0_init_db425 : MethodName := ⟨RJ0, "<init>", "(Ljava/lang/AbstractStringBuilder;Ljava/lang/Void;)V"⟩
abbrev cJ0_coder_7d493 : ByteArray := prog_39_method_152_code
def yJ0_coder_7d493 : MethodName := ⟨RJ0, "coder", "()B"⟩
abbrev cJ0_isLatin1_aae02 : ByteArray := prog_39_method_154_code
def yJ0_isLatin1_aae02 : MethodName := ⟨RJ0, "isLatin1", "()Z"⟩
abbrev cJ0_checkIndex_df160 : ByteArray := prog_39_method_155_code
def yJ0_checkIndex_df160 : MethodName := ⟨RJ0, "checkIndex", "(II)V"⟩
abbrev cJ0_checkBoundsOffCount_cabcc : ByteArray := prog_39_method_157_code
def yJ0_checkBoundsOffCount_cabcc : MethodName := ⟨RJ0, "checkBoundsOffCount", "(III)I"⟩
abbrev cJ0_checkBoundsBeginEnd_23922 : ByteArray := prog_39_method_158_code
def yJ0_checkBoundsBeginEnd_23922 : MethodName := ⟨RJ0, "checkBoundsBeginEnd", "(III)V"⟩
def RJ4 : String := "java/lang/StringBuilder"
def TJ4 : u_T := fun k => match k with
  | 0 => ("java/lang/AbstractStringBuilder", "value", "[B", false)
  | 1 => ("java/lang/AbstractStringBuilder", "coder", "B", false)
  | 2 => ("java/lang/AbstractStringBuilder", "maybeLatin1", "Z", false)
  | _ => ("java/lang/AbstractStringBuilder", "count", "I", false)
def tyJ4 : Nat → FieldType := fun k => match k with
  | 0 => .array .byte
  | 1 => .byte
  | 2 => .boolean
  | _ => .int
theorem nmJ4 : ∀ a, a < 4 → ∀ b, b < 4 → a ≠ b → (TJ4 a).2.1 ≠ (TJ4 b).2.1 := by decide +kernel
theorem tyJ4_ok : ∀ k, k < 4 → parseFieldDescriptor (TJ4 k).2.2.1 = some (tyJ4 k) := by decide +kernel
abbrev cJ4_init_da8c8 : ByteArray := prog_40_method_1_code
def yJ4_init_da8c8 : MethodName := ⟨RJ4, "<init>", "()V"⟩
abbrev cJ4_append_15ec4 : ByteArray := prog_40_method_7_code
def yJ4_append_15ec4 : MethodName := ⟨RJ4, "append", "(Ljava/lang/String;)Ljava/lang/StringBuilder;"⟩
abbrev cJ4_append_bf812 : ByteArray := prog_40_method_15_code
def yJ4_append_bf812 : MethodName := ⟨RJ4, "append", "(I)Ljava/lang/StringBuilder;"⟩
abbrev cJ4_toString_0e30d : ByteArray := prog_40_method_42_code
def yJ4_toString_0e30d : MethodName := ⟨RJ4, "toString", "()Ljava/lang/String;"⟩
abbrev cJ4_length_8abf5 : ByteArray := prog_40_method_93_code
def yJ4_length_8abf5 : MethodName := ⟨RJ4, "length", "()I"⟩
def RJ1 : String := "java/lang/StringLatin1"
def TJ1 : u_T := fun k => match k with
  | _ => ("", "", "", false)
def tyJ1 : Nat → FieldType := fun k => match k with
  | _ => .int
theorem nmJ1 : ∀ a, a < 0 → ∀ b, b < 0 → a ≠ b → (TJ1 a).2.1 ≠ (TJ1 b).2.1 := by decide +kernel
theorem tyJ1_ok : ∀ k, k < 0 → parseFieldDescriptor (TJ1 k).2.2.1 = some (tyJ1 k) := by decide +kernel
abbrev cJ1_charAt_3b067 : ByteArray := prog_41_method_2_code
def yJ1_charAt_3b067 : MethodName := ⟨RJ1, "charAt", "([BI)C"⟩
abbrev cJ1_inflate_0e8fd : ByteArray := prog_41_method_50_code
def yJ1_inflate_0e8fd : MethodName := ⟨RJ1, "inflate", "([BI[BII)V"⟩
def RJ2 : String := "java/lang/StringUTF16"
def TJ2 : u_T := fun k => match k with
  | _ => ("", "", "", false)
def tyJ2 : Nat → FieldType := fun k => match k with
  | _ => .int
theorem nmJ2 : ∀ a, a < 0 → ∀ b, b < 0 → a ≠ b → (TJ2 a).2.1 ≠ (TJ2 b).2.1 := by decide +kernel
theorem tyJ2_ok : ∀ k, k < 0 → parseFieldDescriptor (TJ2 k).2.2.1 = some (tyJ2 k) := by decide +kernel
abbrev cJ2_newBytesFor_77867 : ByteArray := prog_42_method_2_code
def yJ2_newBytesFor_77867 : MethodName := ⟨RJ2, "newBytesFor", "(I)[B"⟩
abbrev cJ2_newBytesLength_0f7a4 : ByteArray := prog_42_method_3_code
def yJ2_newBytesLength_0f7a4 : MethodName := ⟨RJ2, "newBytesLength", "(I)I"⟩
abbrev cJ2_putChar_b72d1 : ByteArray := prog_42_method_4_code
def yJ2_putChar_b72d1 : MethodName := ⟨RJ2, "putChar", "([BII)V"⟩
abbrev cJ2_getChar_3b067 : ByteArray := prog_42_method_5_code
def yJ2_getChar_3b067 : MethodName := ⟨RJ2, "getChar", "([BI)C"⟩
abbrev cJ2_length_9d52b : ByteArray := prog_42_method_6_code
def yJ2_length_9d52b : MethodName := ⟨RJ2, "length", "([B)I"⟩
abbrev cJ2_coderFromArrayLen_85cad : ByteArray := prog_42_method_15_code
def yJ2_coderFromArrayLen_85cad : MethodName := ⟨RJ2, "coderFromArrayLen", "([BI)B"⟩
abbrev cJ2_compress_39247 : ByteArray := prog_42_method_17_code
def yJ2_compress_39247 : MethodName := ⟨RJ2, "compress", "([BII)[B"⟩
abbrev cJ2_compress_5af95 : ByteArray := prog_42_method_22_code
def yJ2_compress_5af95 : MethodName := ⟨RJ2, "compress", "([BI[BII)I"⟩
abbrev cJ2_getChars_46870 : ByteArray := prog_42_method_77_code
def yJ2_getChars_46870 : MethodName := ⟨RJ2, "getChars", "(III[B)I"⟩
abbrev cJ2_putCharsAt_cd4e5 : ByteArray := prog_42_method_81_code
def yJ2_putCharsAt_cd4e5 : MethodName := ⟨RJ2, "putCharsAt", "([BICCCC)I"⟩
abbrev cJ2_charAt_3b067 : ByteArray := prog_42_method_83_code
def yJ2_charAt_3b067 : MethodName := ⟨RJ2, "charAt", "([BI)C"⟩
abbrev cJ2_inflate_0e8fd : ByteArray := prog_42_method_86_code
def yJ2_inflate_0e8fd : MethodName := ⟨RJ2, "inflate", "([BI[BII)V"⟩
abbrev cJ2_getChars_ba4f3 : ByteArray := prog_42_method_89_code
def yJ2_getChars_ba4f3 : MethodName := ⟨RJ2, "getChars", "(II[B)I"⟩
abbrev cJ2_checkIndex_2214a : ByteArray := prog_42_method_91_code
def yJ2_checkIndex_2214a : MethodName := ⟨RJ2, "checkIndex", "(I[B)V"⟩
abbrev cJ2_checkBoundsBeginEnd_d044e : ByteArray := prog_42_method_93_code
def yJ2_checkBoundsBeginEnd_d044e : MethodName := ⟨RJ2, "checkBoundsBeginEnd", "(II[B)V"⟩
abbrev cJ2_checkBoundsOffCount_d044e : ByteArray := prog_42_method_94_code
def yJ2_checkBoundsOffCount_d044e : MethodName := ⟨RJ2, "checkBoundsOffCount", "(II[B)V"⟩
def RJ10 : String := "java/lang/System"
def TJ10 : u_T := fun k => match k with
  | _ => ("", "", "", false)
def tyJ10 : Nat → FieldType := fun k => match k with
  | _ => .int
theorem nmJ10 : ∀ a, a < 0 → ∀ b, b < 0 → a ≠ b → (TJ10 a).2.1 ≠ (TJ10 b).2.1 := by decide +kernel
theorem tyJ10_ok : ∀ k, k < 0 → parseFieldDescriptor (TJ10 k).2.2.1 = some (tyJ10 k) := by decide +kernel
def RJxfd54e : String := "java/lang/constant/Constable"
def TJxfd54e : u_T := fun k => match k with
  | _ => ("", "", "", false)
def tyJxfd54e : Nat → FieldType := fun k => match k with
  | _ => .int
theorem nmJxfd54e : ∀ a, a < 0 → ∀ b, b < 0 → a ≠ b → (TJxfd54e a).2.1 ≠ (TJxfd54e b).2.1 := by decide +kernel
theorem tyJxfd54e_ok : ∀ k, k < 0 → parseFieldDescriptor (TJxfd54e k).2.2.1 = some (tyJxfd54e k) := by decide +kernel
def RJx3cf43 : String := "java/lang/constant/ConstantDesc"
def TJx3cf43 : u_T := fun k => match k with
  | _ => ("", "", "", false)
def tyJx3cf43 : Nat → FieldType := fun k => match k with
  | _ => .int
theorem nmJx3cf43 : ∀ a, a < 0 → ∀ b, b < 0 → a ≠ b → (TJx3cf43 a).2.1 ≠ (TJx3cf43 b).2.1 := by decide +kernel
theorem tyJx3cf43_ok : ∀ k, k < 0 → parseFieldDescriptor (TJx3cf43 k).2.2.1 = some (tyJx3cf43 k) := by decide +kernel
def RJxa1e45 : String := "java/util/AbstractCollection"
def TJxa1e45 : u_T := fun k => match k with
  | _ => ("", "", "", false)
def tyJxa1e45 : Nat → FieldType := fun k => match k with
  | _ => .int
theorem nmJxa1e45 : ∀ a, a < 0 → ∀ b, b < 0 → a ≠ b → (TJxa1e45 a).2.1 ≠ (TJxa1e45 b).2.1 := by decide +kernel
theorem tyJxa1e45_ok : ∀ k, k < 0 → parseFieldDescriptor (TJxa1e45 k).2.2.1 = some (tyJxa1e45 k) := by decide +kernel
abbrev cJxa1e45_init_da8c8 : ByteArray := prog_47_method_1_code
def yJxa1e45_init_da8c8 : MethodName := ⟨RJxa1e45, "<init>", "()V"⟩
def RJxc12de : String := "java/util/AbstractList"
def TJxc12de : u_T := fun k => match k with
  | _ => ("", "", "", false)
def tyJxc12de : Nat → FieldType := fun k => match k with
  | _ => .int
theorem nmJxc12de : ∀ a, a < 0 → ∀ b, b < 0 → a ≠ b → (TJxc12de a).2.1 ≠ (TJxc12de b).2.1 := by decide +kernel
theorem tyJxc12de_ok : ∀ k, k < 0 → parseFieldDescriptor (TJxc12de k).2.2.1 = some (tyJxc12de k) := by decide +kernel
abbrev cJxc12de_init_da8c8 : ByteArray := prog_48_method_1_code
def yJxc12de_init_da8c8 : MethodName := ⟨RJxc12de, "<init>", "()V"⟩
def RJx4a65c : String := "java/util/ArrayList"
def TJx4a65c : u_T := fun k => match k with
  | 0 => ("java/util/AbstractList", "modCount", "I", false)
  | 1 => ("java/util/ArrayList", "elementData", "[Ljava/lang/Object;", false)
  | _ => ("java/util/ArrayList", "size", "I", false)
def tyJx4a65c : Nat → FieldType := fun k => match k with
  | 0 => .int
  | 1 => .array (.object "java/lang/Object")
  | _ => .int
theorem nmJx4a65c : ∀ a, a < 3 → ∀ b, b < 3 → a ≠ b → (TJx4a65c a).2.1 ≠ (TJx4a65c b).2.1 := by decide +kernel
theorem tyJx4a65c_ok : ∀ k, k < 3 → parseFieldDescriptor (TJx4a65c k).2.2.1 = some (tyJx4a65c k) := by decide +kernel
abbrev cJx4a65c_init_da8c8 : ByteArray := prog_49_method_2_code
def yJx4a65c_init_da8c8 : MethodName := ⟨RJx4a65c, "<init>", "()V"⟩
abbrev cJx4a65c_grow_92f84 : ByteArray := prog_49_method_6_code
def yJx4a65c_grow_92f84 : MethodName := ⟨RJx4a65c, "grow", "(I)[Ljava/lang/Object;"⟩
abbrev cJx4a65c_grow_d5877 : ByteArray := prog_49_method_7_code
def yJx4a65c_grow_d5877 : MethodName := ⟨RJx4a65c, "grow", "()[Ljava/lang/Object;"⟩
abbrev cJx4a65c_size_8abf5 : ByteArray := prog_49_method_8_code
def yJx4a65c_size_8abf5 : MethodName := ⟨RJx4a65c, "size", "()I"⟩
abbrev cJx4a65c_elementData_915e3 : ByteArray := prog_49_method_18_code
def yJx4a65c_elementData_915e3 : MethodName := ⟨RJx4a65c, "elementData", "(I)Ljava/lang/Object;"⟩
abbrev cJx4a65c_get_915e3 : ByteArray := prog_49_method_20_code
def yJx4a65c_get_915e3 : MethodName := ⟨RJx4a65c, "get", "(I)Ljava/lang/Object;"⟩
abbrev cJx4a65c_add_72be8 : ByteArray := prog_49_method_24_code
def yJx4a65c_add_72be8 : MethodName := ⟨RJx4a65c, "add", "(Ljava/lang/Object;[Ljava/lang/Object;I)V"⟩
abbrev cJx4a65c_add_9ea2d : ByteArray := prog_49_method_25_code
def yJx4a65c_add_9ea2d : MethodName := ⟨RJx4a65c, "add", "(Ljava/lang/Object;)Z"⟩
def RJ7 : String := "java/util/Arrays"
def TJ7 : u_T := fun k => match k with
  | _ => ("", "", "", false)
def tyJ7 : Nat → FieldType := fun k => match k with
  | _ => .int
theorem nmJ7 : ∀ a, a < 0 → ∀ b, b < 0 → a ≠ b → (TJ7 a).2.1 ≠ (TJ7 b).2.1 := by decide +kernel
theorem tyJ7_ok : ∀ k, k < 0 → parseFieldDescriptor (TJ7 k).2.2.1 = some (tyJ7 k) := by decide +kernel
abbrev cJ7_rangeCheck_23922 : ByteArray := prog_50_method_30_code
def yJ7_rangeCheck_23922 : MethodName := ⟨RJ7, "rangeCheck", "(III)V"⟩
abbrev cJ7_fill_fda19 : ByteArray := prog_50_method_104_code
def yJ7_fill_fda19 : MethodName := ⟨RJ7, "fill", "([IIII)V"⟩
abbrev cJ7_copyOf_1904c : ByteArray := prog_50_method_119_code
def yJ7_copyOf_1904c : MethodName := ⟨RJ7, "copyOf", "([Ljava/lang/Object;I)[Ljava/lang/Object;"⟩
abbrev cJ7_copyOf_6403c : ByteArray := prog_50_method_120_code
def yJ7_copyOf_6403c : MethodName := ⟨RJ7, "copyOf", "([Ljava/lang/Object;ILjava/lang/Class;)[Ljava/lang/Object;"⟩
abbrev cJ7_copyOf_9075b : ByteArray := prog_50_method_121_code
def yJ7_copyOf_9075b : MethodName := ⟨RJ7, "copyOf", "([BI)[B"⟩
abbrev cJ7_copyOf_59c91 : ByteArray := prog_50_method_123_code
def yJ7_copyOf_59c91 : MethodName := ⟨RJ7, "copyOf", "([II)[I"⟩
abbrev cJ7_copyOf_c38d5 : ByteArray := prog_50_method_124_code
def yJ7_copyOf_c38d5 : MethodName := ⟨RJ7, "copyOf", "([JI)[J"⟩
abbrev cJ7_checkLength_df160 : ByteArray := prog_50_method_131_code
def yJ7_checkLength_df160 : MethodName := ⟨RJ7, "checkLength", "(II)V"⟩
abbrev cJ7_copyOfRange_39247 : ByteArray := prog_50_method_132_code
def yJ7_copyOfRange_39247 : MethodName := ⟨RJ7, "copyOfRange", "([BII)[B"⟩
abbrev cJ7_copyOfRangeByte_39247 : ByteArray := prog_50_method_133_code
def yJ7_copyOfRangeByte_39247 : MethodName := ⟨RJ7, "copyOfRangeByte", "([BII)[B"⟩
def RJx5ef63 : String := "java/util/Collection"
def TJx5ef63 : u_T := fun k => match k with
  | _ => ("", "", "", false)
def tyJx5ef63 : Nat → FieldType := fun k => match k with
  | _ => .int
theorem nmJx5ef63 : ∀ a, a < 0 → ∀ b, b < 0 → a ≠ b → (TJx5ef63 a).2.1 ≠ (TJx5ef63 b).2.1 := by decide +kernel
theorem tyJx5ef63_ok : ∀ k, k < 0 → parseFieldDescriptor (TJx5ef63 k).2.2.1 = some (tyJx5ef63 k) := by decide +kernel
def RJxbd725 : String := "java/util/List"
def TJxbd725 : u_T := fun k => match k with
  | _ => ("", "", "", false)
def tyJxbd725 : Nat → FieldType := fun k => match k with
  | _ => .int
theorem nmJxbd725 : ∀ a, a < 0 → ∀ b, b < 0 → a ≠ b → (TJxbd725 a).2.1 ≠ (TJxbd725 b).2.1 := by decide +kernel
theorem tyJxbd725_ok : ∀ k, k < 0 → parseFieldDescriptor (TJxbd725 k).2.2.1 = some (tyJxbd725 k) := by decide +kernel
def RJ15 : String := "java/util/Objects"
def TJ15 : u_T := fun k => match k with
  | _ => ("", "", "", false)
def tyJ15 : Nat → FieldType := fun k => match k with
  | _ => .int
theorem nmJ15 : ∀ a, a < 0 → ∀ b, b < 0 → a ≠ b → (TJ15 a).2.1 ≠ (TJ15 b).2.1 := by decide +kernel
theorem tyJ15_ok : ∀ k, k < 0 → parseFieldDescriptor (TJ15 k).2.2.1 = some (tyJ15 k) := by decide +kernel
abbrev cJ15_checkIndex_7cf53 : ByteArray := prog_53_method_17_code
def yJ15_checkIndex_7cf53 : MethodName := ⟨RJ15, "checkIndex", "(II)I"⟩
def RJxf0a74 : String := "java/util/RandomAccess"
def TJxf0a74 : u_T := fun k => match k with
  | _ => ("", "", "", false)
def tyJxf0a74 : Nat → FieldType := fun k => match k with
  | _ => .int
theorem nmJxf0a74 : ∀ a, a < 0 → ∀ b, b < 0 → a ≠ b → (TJxf0a74 a).2.1 ≠ (TJxf0a74 b).2.1 := by decide +kernel
theorem tyJxf0a74_ok : ∀ k, k < 0 → parseFieldDescriptor (TJxf0a74 k).2.2.1 = some (tyJxf0a74 k) := by decide +kernel
def RJxa66e6 : String := "java/util/SequencedCollection"
def TJxa66e6 : u_T := fun k => match k with
  | _ => ("", "", "", false)
def tyJxa66e6 : Nat → FieldType := fun k => match k with
  | _ => .int
theorem nmJxa66e6 : ∀ a, a < 0 → ∀ b, b < 0 → a ≠ b → (TJxa66e6 a).2.1 ≠ (TJxa66e6 b).2.1 := by decide +kernel
theorem tyJxa66e6_ok : ∀ k, k < 0 → parseFieldDescriptor (TJxa66e6 k).2.2.1 = some (tyJxa66e6 k) := by decide +kernel
def RJ8 : String := "jdk/internal/util/ArraysSupport"
def TJ8 : u_T := fun k => match k with
  | _ => ("", "", "", false)
def tyJ8 : Nat → FieldType := fun k => match k with
  | _ => .int
theorem nmJ8 : ∀ a, a < 0 → ∀ b, b < 0 → a ≠ b → (TJ8 a).2.1 ≠ (TJ8 b).2.1 := by decide +kernel
theorem tyJ8_ok : ∀ k, k < 0 → parseFieldDescriptor (TJ8 k).2.2.1 = some (tyJ8 k) := by decide +kernel
abbrev cJ8_newLength_cabcc : ByteArray := prog_56_method_27_code
def yJ8_newLength_cabcc : MethodName := ⟨RJ8, "newLength", "(III)I"⟩
abbrev cJ8_hugeLength_7cf53 : ByteArray := prog_56_method_28_code
def yJ8_hugeLength_7cf53 : MethodName := ⟨RJ8, "hugeLength", "(II)I"⟩
def RJ3 : String := "jdk/internal/util/Preconditions"
def TJ3 : u_T := fun k => match k with
  | _ => ("", "", "", false)
def tyJ3 : Nat → FieldType := fun k => match k with
  | _ => .int
theorem nmJ3 : ∀ a, a < 0 → ∀ b, b < 0 → a ≠ b → (TJ3 a).2.1 ≠ (TJ3 b).2.1 := by decide +kernel
theorem tyJ3_ok : ∀ k, k < 0 → parseFieldDescriptor (TJ3 k).2.2.1 = some (tyJ3 k) := by decide +kernel
abbrev cJ3_checkIndex_8e157 : ByteArray := prog_57_method_11_code
def yJ3_checkIndex_8e157 : MethodName := ⟨RJ3, "checkIndex", "(IILjava/util/function/BiFunction;)I"⟩
abbrev cJ3_checkFromToIndex_8c36e : ByteArray := prog_57_method_12_code
def yJ3_checkFromToIndex_8c36e : MethodName := ⟨RJ3, "checkFromToIndex", "(IIILjava/util/function/BiFunction;)I"⟩
abbrev cJ3_checkFromIndexSize_8c36e : ByteArray := prog_57_method_13_code
def yJ3_checkFromIndexSize_8c36e : MethodName := ⟨RJ3, "checkFromIndexSize", "(IIILjava/util/function/BiFunction;)I"⟩
def RL : String := "LanternserverLaw"
abbrev cL_type : ByteArray := method_3_code
def yL_type : MethodName := ⟨RL, "type", "(LLanternserver;JJJJJJ[J)I"⟩
abbrev cL_put : ByteArray := method_4_code
def yL_put : MethodName := ⟨RL, "put", "(LLanternserver;II[J)I"⟩
abbrev cL_piece : ByteArray := method_5_code
def yL_piece : MethodName := ⟨RL, "piece", "(LLanternserver;I[J)I"⟩
abbrev cL_sum : ByteArray := method_6_code
def yL_sum : MethodName := ⟨RL, "sum", "(LLanternserver;II[J)I"⟩
abbrev cL_addHost : ByteArray := method_7_code
def yL_addHost : MethodName := ⟨RL, "addHost", "(LLanternserver;II[J)I"⟩
abbrev cL_setMtu : ByteArray := method_8_code
def yL_setMtu : MethodName := ⟨RL, "setMtu", "(LLanternserver;II[J)I"⟩
abbrev cL_hostAt : ByteArray := method_9_code
def yL_hostAt : MethodName := ⟨RL, "hostAt", "(LLanternserver;II[J)I"⟩
abbrev cL_tableAt : ByteArray := method_10_code
def yL_tableAt : MethodName := ⟨RL, "tableAt", "(LLanternserver;II[J)I"⟩
abbrev cL_deliver : ByteArray := method_11_code
def yL_deliver : MethodName := ⟨RL, "deliver", "(LLanternserver;I[J)I"⟩
abbrev cL_lose : ByteArray := method_12_code
def yL_lose : MethodName := ⟨RL, "lose", "(LLanternserver;I[J)I"⟩
abbrev cL_twice : ByteArray := method_13_code
def yL_twice : MethodName := ⟨RL, "twice", "(LLanternserver;I[J)I"⟩
abbrev cL_spoil : ByteArray := method_14_code
def yL_spoil : MethodName := ⟨RL, "spoil", "(LLanternserver;III[J)I"⟩
abbrev cL_frameAt : ByteArray := method_15_code
def yL_frameAt : MethodName := ⟨RL, "frameAt", "(LLanternserver;II[J)I"⟩
abbrev cL_byteAt : ByteArray := method_16_code
def yL_byteAt : MethodName := ⟨RL, "byteAt", "(LLanternserver;II[J)I"⟩
abbrev cL_pass : ByteArray := method_17_code
def yL_pass : MethodName := ⟨RL, "pass", "(LLanternserver;I[J)I"⟩
abbrev cL_settle : ByteArray := method_18_code
def yL_settle : MethodName := ⟨RL, "settle", "(LLanternserver;I[J)I"⟩
abbrev cL_play : ByteArray := method_19_code
def yL_play : MethodName := ⟨RL, "play", "(LLanternserver;II[J)I"⟩
abbrev cL_echo : ByteArray := method_20_code
def yL_echo : MethodName := ⟨RL, "echo", "(LLanternserver;III[J)I"⟩
abbrev cL_isAnswered : ByteArray := method_21_code
def yL_isAnswered : MethodName := ⟨RL, "isAnswered", "(LLanternserver;I[J)I"⟩
abbrev cL_name : ByteArray := method_22_code
def yL_name : MethodName := ⟨RL, "name", "(LLanternserver;I[J)I"⟩
abbrev cL_lookUp : ByteArray := method_23_code
def yL_lookUp : MethodName := ⟨RL, "lookUp", "(LLanternserver;I[J)I"⟩
abbrev cL_askAgain : ByteArray := method_24_code
def yL_askAgain : MethodName := ⟨RL, "askAgain", "(LLanternserver;I)I"⟩
abbrev cL_found : ByteArray := method_25_code
def yL_found : MethodName := ⟨RL, "found", "(LLanternserver;I[J)I"⟩
abbrev cL_connect : ByteArray := method_26_code
def yL_connect : MethodName := ⟨RL, "connect", "(LLanternserver;III[J)I"⟩
abbrev cL_write : ByteArray := method_27_code
def yL_write : MethodName := ⟨RL, "write", "(LLanternserver;I[J)I"⟩
abbrev cL_read : ByteArray := method_28_code
def yL_read : MethodName := ⟨RL, "read", "(LLanternserver;II[J)I"⟩
abbrev cL_readAt : ByteArray := method_29_code
def yL_readAt : MethodName := ⟨RL, "readAt", "(LLanternserver;II[J)I"⟩
abbrev cL_close : ByteArray := method_30_code
def yL_close : MethodName := ⟨RL, "close", "(LLanternserver;IZ[J)I"⟩
abbrev cL_connectionAt : ByteArray := method_31_code
def yL_connectionAt : MethodName := ⟨RL, "connectionAt", "(LLanternserver;II[J)I"⟩
abbrev cL_fileAt : ByteArray := method_32_code
def yL_fileAt : MethodName := ⟨RL, "fileAt", "(LLanternserver;II[J)I"⟩
abbrev cL_fileByteAt : ByteArray := method_33_code
def yL_fileByteAt : MethodName := ⟨RL, "fileByteAt", "(LLanternserver;IZI[J)I"⟩
abbrev cL_servedAt : ByteArray := method_34_code
def yL_servedAt : MethodName := ⟨RL, "servedAt", "(LLanternserver;II[J)I"⟩
abbrev cL_answerAt : ByteArray := method_35_code
def yL_answerAt : MethodName := ⟨RL, "answerAt", "(LLanternserver;II[J)I"⟩
abbrev cL_count : ByteArray := method_36_code
def yL_count : MethodName := ⟨RL, "count", "(LLanternserver;I[J)I"⟩
abbrev cL_law : ByteArray := code
def yL_law : MethodName := ⟨RL, "law", "([I)Z"⟩
abbrev vwCl : List vw_C := [(RJ0, TJ0, 4), (RJ4, TJ4, 4), (RJx00060, TJx00060, 6), (RJx4a65c, TJx4a65c, 3), (RX0, TX0, 19), (RX1, TX1, 11), (RX2, TX2, 5), (RX3, TX3, 16), (RX4, TX4, 11), (RX5, TX5, 19), (RX6, TX6, 8), (RX7, TX7, 2), (RX8, TX8, 12), (RX9, TX9, 20), (RX10, TX10, 14), (RX11, TX11, 17), (RX12, TX12, 2), (RX13, TX13, 2), (RX14, TX14, 4), (RX15, TX15, 16), (RX16, TX16, 3), (RX17, TX17, 41), (RX18, TX18, 7), (RX19, TX19, 2), (RX20, TX20, 96)]
